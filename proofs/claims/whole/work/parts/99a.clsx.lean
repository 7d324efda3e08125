set_option maxHeartbeats 4000000 in
set_option maxRecDepth 100000 in
theorem kx_X4_refuse (l : Launch) (D : va_G) (cA : Nat → ClassId) (E : hp_N) (sz : Nat) (ad : Nat → Nat → Nat) (ca0 : Nat → Nat) (hj : cd_inj ad ca0) (oq sgq sgv : Nat) (hE : cd_E E oq sgq sgv) (hX : cd_X l E) (n : Nat) (σ0 : cd_S) (b0 : cd_B) (a1 : Int32) (a2 : Int32) (p : (cd_S × cd_B)) (h : f_X4_refuse n σ0 b0 a1 a2 = some (Sum.inr p)) : (p.2.1 ≤ b0.1 ∧ p.2.2 ≤ b0.2) ∧ vx_Met l yX4_refuse (Cond.code yX4_refuse cX4_refuse 3 none :: v_CLS) ({ frames := 12, cells := b0.1 - p.2.1, slots := b0.2 - p.2.2, locals := 200 }) (hp_Pc D vwCl (hp_Tl cA) E sz (cd_pic cA ad ca0 σ0) [.ref (ad 4 0), .int a1, .int a2]) (hp_Qv D vwCl (hp_Tl cA) sz (cd_pic cA ad ca0 σ0) (fun _ => False)) (hp_XQ D vwCl (hp_Tl cA) "java/lang/IllegalArgumentException" (cd_pic cA ad ca0 σ0) sz (fun u => ∃ ca1, cd_inj ad ca1 ∧ u = cd_pic cA ad ca1 p.1)) (b0.1 - p.2.1) (b0.2 - p.2.2) (hp_A (cd_pic cA ad ca0 σ0) sz) := by
  obtain ⟨hm0, hn0, h⟩ := cd_cks h
  have hM0 : p.2.1 ≤ b0.1 ∧ p.2.2 ≤ b0.2 := ⟨hm0, hn0⟩
  refine ⟨hM0, ?_⟩
  refine hp_ofWx (cc := cX4_refuse) (maxL := 3) (ret := none) (by decide) rfl (Nat.le_of_ble_eq_true rfl) ?_
  intro pp ee ss mm bb mt cd ls cx hsz hw hl hno
  have hl : lv_has ls 3 [(0, .ref (ad 4 0)), (1, .int a1), (2, .int a2)] := hl
  refine W.widen (k := b0.1 - b0.1) (n := b0.2 - b0.2) (Nat.zero_le _) (Nat.zero_le _) ?_
  refine lv_aload_n cx.1 cx.2.1 dX4_refuse_0 rfl (lv_at hl 0 rfl) ?_
  refine lv_iload_n cx.1 cx.2.1 dX4_refuse_1 rfl (lv_at hl 1 rfl) ?_
  obtain ⟨σ1, e_σ1, h⟩ := md_ob h
  refine cd_pI (o := 4) (k := 11) (f := 139) hj cx hw hic4 rfl ⟨by decide, rfl, by decide, rfl⟩ tyX4_ok nmX4 rfl (by decide) rfl (List.mem_cons_of_mem _ cm_656) rfl e_σ1 dX4_refuse_2 (fun H locs hw => ?_)
  refine lv_aload_n cx.1 cx.2.1 dX4_refuse_5 rfl (lv_at hl 0 rfl) ?_
  refine lv_iload_n cx.1 cx.2.1 dX4_refuse_6 rfl (lv_at hl 2 rfl) ?_
  obtain ⟨σ2, e_σ2, h⟩ := md_ob h
  refine cd_pI (o := 4) (k := 12) (f := 140) hj cx hw hic4 rfl ⟨by decide, rfl, by decide, rfl⟩ tyX4_ok nmX4 rfl (by decide) rfl (List.mem_cons_of_mem _ cm_657) rfl e_σ2 dX4_refuse_7 (fun H locs hw => ?_)
  obtain ⟨b3, e_b3, h⟩ := md_ob h
  have hu := cd_uses e_b3
  obtain rfl : (σ2, b3) = p := Sum.inr.inj (Option.some.inj h)
  obtain ⟨sr, hsr⟩ := hX.2.2
  exact hp_throwQ (X := "java/lang/IllegalArgumentException") (text := "the text has a fault") (names := ["java/lang/RuntimeException", "java/lang/Exception"]) cx hw hno ⟨_, hj, rfl⟩ hX.1 (by decide +kernel) (by decide +kernel) (List.mem_cons_of_mem _ cm_1218) (List.mem_cons_of_mem _ cm_1219) hsr (fun w h => List.mem_cons_of_mem _ (hat_X4_89 w h)) (by decide +kernel) (by decide +kernel) hX.2.1 hl.1 dX4_refuse_10 dX4_refuse_13 dX4_refuse_14 dX4_refuse_16 dX4_refuse_19 (Nat.le_of_ble_eq_true rfl) (Nat.le_of_ble_eq_true rfl) (by (try dsimp only); omega) (by (try dsimp only); omega) (by (try dsimp only); omega) (by (try dsimp only); omega)
set_option maxHeartbeats 4000000 in
set_option maxRecDepth 100000 in
theorem kx_X4_need (l : Launch) (D : va_G) (cA : Nat → ClassId) (E : hp_N) (sz : Nat) (ad : Nat → Nat → Nat) (ca0 : Nat → Nat) (hj : cd_inj ad ca0) (oq sgq sgv : Nat) (hE : cd_E E oq sgq sgv) (hX : cd_X l E) (n : Nat) (σ0 : cd_S) (b0 : cd_B) (a1 : Int32) (p : (cd_S × cd_B)) (h : f_X4_need n σ0 b0 a1 = some (Sum.inr p)) : (p.2.1 ≤ b0.1 ∧ p.2.2 ≤ b0.2) ∧ vx_Met l yX4_need (Cond.code yX4_need cX4_need 2 none :: v_CLS) ({ frames := 13, cells := b0.1 - p.2.1, slots := b0.2 - p.2.2, locals := 222 }) (hp_Pc D vwCl (hp_Tl cA) E sz (cd_pic cA ad ca0 σ0) [.ref (ad 4 0), .int a1]) (hp_Qv D vwCl (hp_Tl cA) sz (cd_pic cA ad ca0 σ0) (fun _ => False)) (hp_XQ D vwCl (hp_Tl cA) "java/lang/IllegalArgumentException" (cd_pic cA ad ca0 σ0) sz (fun u => ∃ ca1, cd_inj ad ca1 ∧ u = cd_pic cA ad ca1 p.1)) (b0.1 - p.2.1) (b0.2 - p.2.2) (hp_A (cd_pic cA ad ca0 σ0) sz) := by
  obtain ⟨hm0, hn0, h⟩ := cd_cks h
  have hM0 : p.2.1 ≤ b0.1 ∧ p.2.2 ≤ b0.2 := ⟨hm0, hn0⟩
  refine ⟨hM0, ?_⟩
  refine hp_ofWx (cc := cX4_need) (maxL := 2) (ret := none) (by decide) rfl (Nat.le_of_ble_eq_true rfl) ?_
  intro pp ee ss mm bb mt cd ls cx hsz hw hl hno
  have hl : lv_has ls 2 [(0, .ref (ad 4 0)), (1, .int a1)] := hl
  refine W.widen (k := b0.1 - b0.1) (n := b0.2 - b0.2) (Nat.zero_le _) (Nat.zero_le _) ?_
  refine lv_iload_n cx.1 cx.2.1 dX4_need_0 rfl (lv_at hl 1 rfl) ?_
  refine lv_if_ne (tgt := 16) cx.1 cx.2.1 dX4_need_1 (by decide) (fun c1 => ?_) (fun c1 => ?_)
  · have h := md_in c1 h
    exact nomatch Option.some.inj h
  · have h := md_ip c1 h
    refine lv_aload_n cx.1 cx.2.1 dX4_need_4 rfl (lv_at hl 0 rfl) ?_
    refine lv_iconst (v := 1) cx.1 cx.2.1 dX4_need_5 (by decide) ?_
    refine lv_aload_n cx.1 cx.2.1 dX4_need_6 rfl (lv_at hl 0 rfl) ?_
    refine cd_gO (o2 := 10) (e2 := 0) (o := 4) (k := 0) (f := 128) hj cx hw hic4 rfl ⟨by decide, rfl, by decide, rfl⟩ rfl (by decide) ⟨rfl, rfl⟩ (List.mem_cons_of_mem _ cm_658) dX4_need_7 ?_
    refine cd_gI (o := 10) (k := 9) (f := 329) hj cx hw hic10 rfl ⟨by decide, rfl, by decide, rfl⟩ rfl (by decide) (List.mem_cons_of_mem _ cm_659) dX4_need_10 ?_
    obtain ⟨q1, e_q1, h⟩ := md_ob h
    obtain ⟨hm2, hn2, h⟩ := cd_cks h
    have hM2 : p.2.1 ≤ (Sum.elim (fun (p : Int32 × cd_S × cd_B) => p.2.2) (fun (t : cd_S × cd_B) => t.2) q1).1 ∧ p.2.2 ≤ (Sum.elim (fun (p : Int32 × cd_S × cd_B) => p.2.2) (fun (t : cd_S × cd_B) => t.2) q1).2 := ⟨hm2, hn2⟩
    cases q1 with
    | inr t1 =>
      obtain rfl : t1 = p := Sum.inr.inj (Option.some.inj h)
      have hlx1 := (kx_X4_refuse l D cA E sz ad _ hj oq sgq sgv hE hX n σ0 b0 (1 : Int32) ((cI σ0 329 0)) t1 e_q1).1
      exact hp_callQv (As := [.int 1, .int (cI σ0 329 0)]) (rest := []) cx hw hno ((kx_X4_refuse l D cA E _ ad _ hj oq sgq sgv hE hX n σ0 b0 (1 : Int32) ((cI σ0 329 0)) t1 e_q1).2) (cwV 2 cx.2.2.2.2.2.1 (cd_giV cm_660 cm_661 cm_662 cm_663 cm_664) rfl rfl rfl hdc_X4_refuse ⟨Nat.le_of_ble_eq_true rfl, Nat.le_of_ble_eq_true rfl⟩) (cd_atO hj (by decide) (by decide)) rfl rfl hl.1 rfl (Nat.le_of_ble_eq_true rfl) dX4_need_13 ⟨by (try dsimp only); omega, by (try dsimp only); omega⟩ (by omega) (by omega)
    | inl p1 =>
      have hle1 := (kc_X4_refuse l D cA E sz ad _ hj oq sgq sgv hE n σ0 b0 (1 : Int32) ((cI σ0 329 0)) p1 e_q1).1
      have hM10002 : p.2.1 ≤ p1.2.2.1 ∧ p.2.2 ≤ p1.2.2.2 := hM2
      have h := cd_inl h
      refine hp_callVv (As := [.int 1, .int (cI σ0 329 0)]) (rest := []) cx hw ((kc_X4_refuse l D cA E _ ad _ hj oq sgq sgv hE n σ0 b0 (1 : Int32) ((cI σ0 329 0)) p1 e_q1).2) (cwV 2 cx.2.2.2.2.2.1 (cd_giV cm_660 cm_661 cm_662 cm_663 cm_664) rfl rfl rfl hdc_X4_refuse ⟨Nat.le_of_ble_eq_true rfl, Nat.le_of_ble_eq_true rfl⟩) (cd_atO hj (by decide) (by decide)) rfl rfl hl.1 rfl (Nat.le_of_ble_eq_true rfl) dX4_need_13 ⟨by (try dsimp only); omega, by (try dsimp only); omega⟩ (fun u H locs hp hw => ?_)
      obtain ⟨ca, hj, rfl⟩ := hp
      refine W.widen (k := b0.1 - p1.2.2.1) (n := b0.2 - p1.2.2.2) (by omega) (by omega) ?_
      exact nomatch Option.some.inj h
set_option maxHeartbeats 4000000 in
set_option maxRecDepth 100000 in
theorem kx_X4_pass (l : Launch) (D : va_G) (cA : Nat → ClassId) (E : hp_N) (sz : Nat) (ad : Nat → Nat → Nat) (ca0 : Nat → Nat) (hj : cd_inj ad ca0) (oq sgq sgv : Nat) (hE : cd_E E oq sgq sgv) (hX : cd_X l E) (n : Nat) (σ0 : cd_S) (b0 : cd_B) (a1 : Int32) (p : (cd_S × cd_B)) (h : f_X4_pass n σ0 b0 a1 = some (Sum.inr p)) : (p.2.1 ≤ b0.1 ∧ p.2.2 ≤ b0.2) ∧ vx_Met l yX4_pass (Cond.code yX4_pass cX4_pass 2 none :: v_CLS) ({ frames := 14, cells := b0.1 - p.2.1, slots := b0.2 - p.2.2, locals := 243 }) (hp_Pc D vwCl (hp_Tl cA) E sz (cd_pic cA ad ca0 σ0) [.ref (ad 4 0), .int a1]) (hp_Qv D vwCl (hp_Tl cA) sz (cd_pic cA ad ca0 σ0) (fun _ => False)) (hp_XQ D vwCl (hp_Tl cA) "java/lang/IllegalArgumentException" (cd_pic cA ad ca0 σ0) sz (fun u => ∃ ca1, cd_inj ad ca1 ∧ u = cd_pic cA ad ca1 p.1)) (b0.1 - p.2.1) (b0.2 - p.2.2) (hp_A (cd_pic cA ad ca0 σ0) sz) := by
  obtain ⟨hm0, hn0, h⟩ := cd_cks h
  have hM0 : p.2.1 ≤ b0.1 ∧ p.2.2 ≤ b0.2 := ⟨hm0, hn0⟩
  refine ⟨hM0, ?_⟩
  refine hp_ofWx (cc := cX4_pass) (maxL := 2) (ret := none) (by decide) rfl (Nat.le_of_ble_eq_true rfl) ?_
  intro pp ee ss mm bb mt cd ls cx hsz hw hl hno
  have hl : lv_has ls 2 [(0, .ref (ad 4 0)), (1, .int a1)] := hl
  refine W.widen (k := b0.1 - b0.1) (n := b0.2 - b0.2) (Nat.zero_le _) (Nat.zero_le _) ?_
  have J17 : ∀ (ca : Nat → Nat) (hj : cd_inj ad ca) (σ : cd_S) (b : cd_B) (t0 : Int32) (H : Heap) (locs : List Loc) (ls : Array Slot), b.1 ≤ b0.1 → b.2 ≤ b0.2 → p.2.1 ≤ b.1 → p.2.2 ≤ b.2 → f_X4_pass_J17 n σ b t0 = some (Sum.inr p) → hp_w D vwCl (hp_Tl cA) E (hp_A (cd_pic cA ad ca0 σ0) sz) ss H locs (cd_pic cA ad ca σ) → lv_has ls 2 [(0, .ref (ad 4 0))] → W pp l ee ({ frames := 14, cells := b0.1 - p.2.1, slots := b0.2 - p.2.2, locals := 243 }) ss mm [.ref (ad 4 0), .int a1].toArray bb mt cd H locs (b0.1 - b.1) (b0.2 - b.2) (vx_MQ bb (hp_Qv D vwCl (hp_Tl cA) sz (cd_pic cA ad ca0 σ0) (fun _ => False)) (hp_XQ D vwCl (hp_Tl cA) "java/lang/IllegalArgumentException" (cd_pic cA ad ca0 σ0) sz (fun u => ∃ ca1, cd_inj ad ca1 ∧ u = cd_pic cA ad ca1 p.1)) [.ref (ad 4 0), .int a1].toArray ss (b0.1 - p.2.1) (b0.2 - p.2.2) (hp_A (cd_pic cA ad ca0 σ0) sz)) (F0 mm 17 ls [.int t0, .ref (ad 4 0)]) := by
    intro ca hj σ b t0 H locs ls hb1 hb2 hf1 hf2 h hw hl
    obtain ⟨q1, e_q1, h⟩ := md_ob h
    obtain ⟨hm2, hn2, h⟩ := cd_cks h
    have hM2 : p.2.1 ≤ (Sum.elim (fun (p : Int32 × cd_S × cd_B) => p.2.2) (fun (t : cd_S × cd_B) => t.2) q1).1 ∧ p.2.2 ≤ (Sum.elim (fun (p : Int32 × cd_S × cd_B) => p.2.2) (fun (t : cd_S × cd_B) => t.2) q1).2 := ⟨hm2, hn2⟩
    cases q1 with
    | inr t1 =>
      obtain rfl : t1 = p := Sum.inr.inj (Option.some.inj h)
      have hlx1 := (kx_X4_need l D cA E sz ad _ hj oq sgq sgv hE hX n σ b t0 t1 e_q1).1
      exact hp_callQv (As := [.int t0]) (rest := []) cx hw hno ((kx_X4_need l D cA E _ ad _ hj oq sgq sgv hE hX n σ b t0 t1 e_q1).2) (cwV 1 cx.2.2.2.2.2.1 (cd_giV cm_666 cm_667 cm_668 cm_663 cm_669) rfl rfl rfl hdc_X4_need ⟨Nat.le_of_ble_eq_true rfl, Nat.le_of_ble_eq_true rfl⟩) (cd_atO hj (by decide) (by decide)) rfl rfl hl.1 rfl (Nat.le_of_ble_eq_true rfl) dX4_pass_17 ⟨by (try dsimp only); omega, by (try dsimp only); omega⟩ (by omega) (by omega)
    | inl p1 =>
      have hle1 := (kc_X4_need l D cA E sz ad _ hj oq sgq sgv hE n σ b t0 p1 e_q1).1
      have hM10002 : p.2.1 ≤ p1.2.2.1 ∧ p.2.2 ≤ p1.2.2.2 := hM2
      have h := cd_inl h
      refine hp_callVv (As := [.int t0]) (rest := []) cx hw ((kc_X4_need l D cA E _ ad _ hj oq sgq sgv hE n σ b t0 p1 e_q1).2) (cwV 1 cx.2.2.2.2.2.1 (cd_giV cm_666 cm_667 cm_668 cm_663 cm_669) rfl rfl rfl hdc_X4_need ⟨Nat.le_of_ble_eq_true rfl, Nat.le_of_ble_eq_true rfl⟩) (cd_atO hj (by decide) (by decide)) rfl rfl hl.1 rfl (Nat.le_of_ble_eq_true rfl) dX4_pass_17 ⟨by (try dsimp only); omega, by (try dsimp only); omega⟩ (fun u H locs hp hw => ?_)
      obtain ⟨ca, hj, rfl⟩ := hp
      refine W.widen (k := b0.1 - p1.2.2.1) (n := b0.2 - p1.2.2.2) (by omega) (by omega) ?_
      refine lv_aload_n cx.1 cx.2.1 dX4_pass_20 rfl (lv_at hl 0 rfl) ?_
      refine cd_gO (o2 := 10) (e2 := 0) (o := 4) (k := 0) (f := 128) hj cx hw hic4 rfl ⟨by decide, rfl, by decide, rfl⟩ rfl (by decide) ⟨rfl, rfl⟩ (List.mem_cons_of_mem _ cm_658) dX4_pass_21 ?_
      obtain ⟨p3, e_p3, h⟩ := md_ob h
      refine hp_callVv (As := []) (rest := []) cx hw (kc_X10_advance l D cA E _ ad _ hj oq sgq sgv hE n p1.2.1  p3 e_p3) (cwV 0 cx.2.2.2.2.2.1 (cd_giV cm_670 cm_671 cm_672 cm_301 cm_673) rfl rfl rfl hdc_X10_advance ⟨Nat.le_of_ble_eq_true rfl, Nat.le_of_ble_eq_true rfl⟩) (cd_atO hj (by decide) (by decide)) rfl rfl hl.1 rfl (Nat.le_of_ble_eq_true rfl) dX4_pass_24 ⟨by (try dsimp only); omega, by (try dsimp only); omega⟩ (fun u H locs hp hw => ?_)
      obtain ⟨ca, hj, rfl⟩ := hp
      exact nomatch Option.some.inj h
  refine lv_aload_n cx.1 cx.2.1 dX4_pass_0 rfl (lv_at hl 0 rfl) ?_
  refine lv_aload_n cx.1 cx.2.1 dX4_pass_1 rfl (lv_at hl 0 rfl) ?_
  refine cd_gO (o2 := 10) (e2 := 0) (o := 4) (k := 0) (f := 128) hj cx hw hic4 rfl ⟨by decide, rfl, by decide, rfl⟩ rfl (by decide) ⟨rfl, rfl⟩ (List.mem_cons_of_mem _ cm_658) dX4_pass_2 ?_
  refine cd_gI (o := 10) (k := 8) (f := 328) hj cx hw hic10 rfl ⟨by decide, rfl, by decide, rfl⟩ rfl (by decide) (List.mem_cons_of_mem _ cm_665) dX4_pass_5 ?_
  refine lv_iload_n cx.1 cx.2.1 dX4_pass_8 rfl (lv_at hl 1 rfl) ?_
  refine lv_icmp_ne (tgt := 16) cx.1 cx.2.1 dX4_pass_9 (by decide) (fun c9 => ?_) (fun c9 => ?_)
  · have h := md_in c9 h
    refine lv_iconst (v := 0) cx.1 cx.2.1 dX4_pass_16 (by decide) ?_
    exact J17 _ hj σ0 b0 0 _ _ _ (by omega) (by omega) (by omega) (by omega) h hw (lv_sub hl [0] rfl)
  · have h := md_ip c9 h
    refine lv_iconst (v := 1) cx.1 cx.2.1 dX4_pass_12 (by decide) ?_
    refine lv_goto (tgt := 17) cx.1 cx.2.1 dX4_pass_13 (by decide) ?_
    exact J17 _ hj σ0 b0 1 _ _ _ (by omega) (by omega) (by omega) (by omega) h hw (lv_sub hl [0] rfl)
set_option maxHeartbeats 4000000 in
set_option maxRecDepth 100000 in
theorem kx_X4_needName (l : Launch) (D : va_G) (cA : Nat → ClassId) (E : hp_N) (sz : Nat) (ad : Nat → Nat → Nat) (ca0 : Nat → Nat) (hj : cd_inj ad ca0) (oq sgq sgv : Nat) (hE : cd_E E oq sgq sgv) (hX : cd_X l E) (n : Nat) (σ0 : cd_S) (b0 : cd_B) (p : (cd_S × cd_B)) (h : f_X4_needName n σ0 b0 = some (Sum.inr p)) : (p.2.1 ≤ b0.1 ∧ p.2.2 ≤ b0.2) ∧ vx_Met l yX4_needName (Cond.code yX4_needName cX4_needName 1 none :: v_CLS) ({ frames := 13, cells := b0.1 - p.2.1, slots := b0.2 - p.2.2, locals := 222 }) (hp_Pc D vwCl (hp_Tl cA) E sz (cd_pic cA ad ca0 σ0) [.ref (ad 4 0)]) (hp_Qv D vwCl (hp_Tl cA) sz (cd_pic cA ad ca0 σ0) (fun _ => False)) (hp_XQ D vwCl (hp_Tl cA) "java/lang/IllegalArgumentException" (cd_pic cA ad ca0 σ0) sz (fun u => ∃ ca1, cd_inj ad ca1 ∧ u = cd_pic cA ad ca1 p.1)) (b0.1 - p.2.1) (b0.2 - p.2.2) (hp_A (cd_pic cA ad ca0 σ0) sz) := by
  obtain ⟨hm0, hn0, h⟩ := cd_cks h
  have hM0 : p.2.1 ≤ b0.1 ∧ p.2.2 ≤ b0.2 := ⟨hm0, hn0⟩
  refine ⟨hM0, ?_⟩
  refine hp_ofWx (cc := cX4_needName) (maxL := 1) (ret := none) (by decide) rfl (Nat.le_of_ble_eq_true rfl) ?_
  intro pp ee ss mm bb mt cd ls cx hsz hw hl hno
  have hl : lv_has ls 1 [(0, .ref (ad 4 0))] := hl
  refine W.widen (k := b0.1 - b0.1) (n := b0.2 - b0.2) (Nat.zero_le _) (Nat.zero_le _) ?_
  refine lv_aload_n cx.1 cx.2.1 dX4_needName_0 rfl (lv_at hl 0 rfl) ?_
  refine cd_gO (o2 := 10) (e2 := 0) (o := 4) (k := 0) (f := 128) hj cx hw hic4 rfl ⟨by decide, rfl, by decide, rfl⟩ rfl (by decide) ⟨rfl, rfl⟩ (List.mem_cons_of_mem _ cm_658) dX4_needName_1 ?_
  refine cd_gI (o := 10) (k := 8) (f := 328) hj cx hw hic10 rfl ⟨by decide, rfl, by decide, rfl⟩ rfl (by decide) (List.mem_cons_of_mem _ cm_665) dX4_needName_4 ?_
  refine lv_iconst (v := 2) cx.1 cx.2.1 dX4_needName_7 (by decide) ?_
  refine lv_icmp_eq (tgt := 23) cx.1 cx.2.1 dX4_needName_8 (by decide) (fun c8 => ?_) (fun c8 => ?_)
  · have h := md_ip c8 h
    exact nomatch Option.some.inj h
  · have h := md_in c8 h
    refine lv_aload_n cx.1 cx.2.1 dX4_needName_11 rfl (lv_at hl 0 rfl) ?_
    refine lv_iconst (v := 1) cx.1 cx.2.1 dX4_needName_12 (by decide) ?_
    refine lv_aload_n cx.1 cx.2.1 dX4_needName_13 rfl (lv_at hl 0 rfl) ?_
    refine cd_gO (o2 := 10) (e2 := 0) (o := 4) (k := 0) (f := 128) hj cx hw hic4 rfl ⟨by decide, rfl, by decide, rfl⟩ rfl (by decide) ⟨rfl, rfl⟩ (List.mem_cons_of_mem _ cm_658) dX4_needName_14 ?_
    refine cd_gI (o := 10) (k := 9) (f := 329) hj cx hw hic10 rfl ⟨by decide, rfl, by decide, rfl⟩ rfl (by decide) (List.mem_cons_of_mem _ cm_659) dX4_needName_17 ?_
    obtain ⟨q1, e_q1, h⟩ := md_ob h
    obtain ⟨hm2, hn2, h⟩ := cd_cks h
    have hM2 : p.2.1 ≤ (Sum.elim (fun (p : Int32 × cd_S × cd_B) => p.2.2) (fun (t : cd_S × cd_B) => t.2) q1).1 ∧ p.2.2 ≤ (Sum.elim (fun (p : Int32 × cd_S × cd_B) => p.2.2) (fun (t : cd_S × cd_B) => t.2) q1).2 := ⟨hm2, hn2⟩
    cases q1 with
    | inr t1 =>
      obtain rfl : t1 = p := Sum.inr.inj (Option.some.inj h)
      have hlx1 := (kx_X4_refuse l D cA E sz ad _ hj oq sgq sgv hE hX n σ0 b0 (1 : Int32) ((cI σ0 329 0)) t1 e_q1).1
      exact hp_callQv (As := [.int 1, .int (cI σ0 329 0)]) (rest := []) cx hw hno ((kx_X4_refuse l D cA E _ ad _ hj oq sgq sgv hE hX n σ0 b0 (1 : Int32) ((cI σ0 329 0)) t1 e_q1).2) (cwV 2 cx.2.2.2.2.2.1 (cd_giV cm_660 cm_661 cm_662 cm_663 cm_664) rfl rfl rfl hdc_X4_refuse ⟨Nat.le_of_ble_eq_true rfl, Nat.le_of_ble_eq_true rfl⟩) (cd_atO hj (by decide) (by decide)) rfl rfl hl.1 rfl (Nat.le_of_ble_eq_true rfl) dX4_needName_20 ⟨by (try dsimp only); omega, by (try dsimp only); omega⟩ (by omega) (by omega)
    | inl p1 =>
      have hle1 := (kc_X4_refuse l D cA E sz ad _ hj oq sgq sgv hE n σ0 b0 (1 : Int32) ((cI σ0 329 0)) p1 e_q1).1
      have hM10002 : p.2.1 ≤ p1.2.2.1 ∧ p.2.2 ≤ p1.2.2.2 := hM2
      have h := cd_inl h
      refine hp_callVv (As := [.int 1, .int (cI σ0 329 0)]) (rest := []) cx hw ((kc_X4_refuse l D cA E _ ad _ hj oq sgq sgv hE n σ0 b0 (1 : Int32) ((cI σ0 329 0)) p1 e_q1).2) (cwV 2 cx.2.2.2.2.2.1 (cd_giV cm_660 cm_661 cm_662 cm_663 cm_664) rfl rfl rfl hdc_X4_refuse ⟨Nat.le_of_ble_eq_true rfl, Nat.le_of_ble_eq_true rfl⟩) (cd_atO hj (by decide) (by decide)) rfl rfl hl.1 rfl (Nat.le_of_ble_eq_true rfl) dX4_needName_20 ⟨by (try dsimp only); omega, by (try dsimp only); omega⟩ (fun u H locs hp hw => ?_)
      obtain ⟨ca, hj, rfl⟩ := hp
      refine W.widen (k := b0.1 - p1.2.2.1) (n := b0.2 - p1.2.2.2) (by omega) (by omega) ?_
      exact nomatch Option.some.inj h
set_option maxHeartbeats 4000000 in
set_option maxRecDepth 100000 in
theorem kx_X4_room (l : Launch) (D : va_G) (cA : Nat → ClassId) (E : hp_N) (sz : Nat) (ad : Nat → Nat → Nat) (ca0 : Nat → Nat) (hj : cd_inj ad ca0) (oq sgq sgv : Nat) (hE : cd_E E oq sgq sgv) (hX : cd_X l E) (n : Nat) (σ0 : cd_S) (b0 : cd_B) (a1 : Int32) (p : (cd_S × cd_B)) (h : f_X4_room n σ0 b0 a1 = some (Sum.inr p)) : (p.2.1 ≤ b0.1 ∧ p.2.2 ≤ b0.2) ∧ vx_Met l yX4_room (Cond.code yX4_room cX4_room 2 none :: v_CLS) ({ frames := 13, cells := b0.1 - p.2.1, slots := b0.2 - p.2.2, locals := 222 }) (hp_Pc D vwCl (hp_Tl cA) E sz (cd_pic cA ad ca0 σ0) [.ref (ad 4 0), .int a1]) (hp_Qv D vwCl (hp_Tl cA) sz (cd_pic cA ad ca0 σ0) (fun _ => False)) (hp_XQ D vwCl (hp_Tl cA) "java/lang/IllegalArgumentException" (cd_pic cA ad ca0 σ0) sz (fun u => ∃ ca1, cd_inj ad ca1 ∧ u = cd_pic cA ad ca1 p.1)) (b0.1 - p.2.1) (b0.2 - p.2.2) (hp_A (cd_pic cA ad ca0 σ0) sz) := by
  obtain ⟨hm0, hn0, h⟩ := cd_cks h
  have hM0 : p.2.1 ≤ b0.1 ∧ p.2.2 ≤ b0.2 := ⟨hm0, hn0⟩
  refine ⟨hM0, ?_⟩
  refine hp_ofWx (cc := cX4_room) (maxL := 2) (ret := none) (by decide) rfl (Nat.le_of_ble_eq_true rfl) ?_
  intro pp ee ss mm bb mt cd ls cx hsz hw hl hno
  have hl : lv_has ls 2 [(0, .ref (ad 4 0)), (1, .int a1)] := hl
  refine W.widen (k := b0.1 - b0.1) (n := b0.2 - b0.2) (Nat.zero_le _) (Nat.zero_le _) ?_
  refine lv_iload_n cx.1 cx.2.1 dX4_room_0 rfl (lv_at hl 1 rfl) ?_
  refine lv_if_ne (tgt := 16) cx.1 cx.2.1 dX4_room_1 (by decide) (fun c1 => ?_) (fun c1 => ?_)
  · have h := md_in c1 h
    exact nomatch Option.some.inj h
  · have h := md_ip c1 h
    refine lv_aload_n cx.1 cx.2.1 dX4_room_4 rfl (lv_at hl 0 rfl) ?_
    refine lv_iconst (v := 4) cx.1 cx.2.1 dX4_room_5 (by decide) ?_
    refine lv_aload_n cx.1 cx.2.1 dX4_room_6 rfl (lv_at hl 0 rfl) ?_
    refine cd_gO (o2 := 10) (e2 := 0) (o := 4) (k := 0) (f := 128) hj cx hw hic4 rfl ⟨by decide, rfl, by decide, rfl⟩ rfl (by decide) ⟨rfl, rfl⟩ (List.mem_cons_of_mem _ cm_658) dX4_room_7 ?_
    refine cd_gI (o := 10) (k := 9) (f := 329) hj cx hw hic10 rfl ⟨by decide, rfl, by decide, rfl⟩ rfl (by decide) (List.mem_cons_of_mem _ cm_659) dX4_room_10 ?_
    obtain ⟨q1, e_q1, h⟩ := md_ob h
    obtain ⟨hm2, hn2, h⟩ := cd_cks h
    have hM2 : p.2.1 ≤ (Sum.elim (fun (p : Int32 × cd_S × cd_B) => p.2.2) (fun (t : cd_S × cd_B) => t.2) q1).1 ∧ p.2.2 ≤ (Sum.elim (fun (p : Int32 × cd_S × cd_B) => p.2.2) (fun (t : cd_S × cd_B) => t.2) q1).2 := ⟨hm2, hn2⟩
    cases q1 with
    | inr t1 =>
      obtain rfl : t1 = p := Sum.inr.inj (Option.some.inj h)
      have hlx1 := (kx_X4_refuse l D cA E sz ad _ hj oq sgq sgv hE hX n σ0 b0 (4 : Int32) ((cI σ0 329 0)) t1 e_q1).1
      exact hp_callQv (As := [.int 4, .int (cI σ0 329 0)]) (rest := []) cx hw hno ((kx_X4_refuse l D cA E _ ad _ hj oq sgq sgv hE hX n σ0 b0 (4 : Int32) ((cI σ0 329 0)) t1 e_q1).2) (cwV 2 cx.2.2.2.2.2.1 (cd_giV cm_660 cm_661 cm_662 cm_663 cm_664) rfl rfl rfl hdc_X4_refuse ⟨Nat.le_of_ble_eq_true rfl, Nat.le_of_ble_eq_true rfl⟩) (cd_atO hj (by decide) (by decide)) rfl rfl hl.1 rfl (Nat.le_of_ble_eq_true rfl) dX4_room_13 ⟨by (try dsimp only); omega, by (try dsimp only); omega⟩ (by omega) (by omega)
    | inl p1 =>
      have hle1 := (kc_X4_refuse l D cA E sz ad _ hj oq sgq sgv hE n σ0 b0 (4 : Int32) ((cI σ0 329 0)) p1 e_q1).1
      have hM10002 : p.2.1 ≤ p1.2.2.1 ∧ p.2.2 ≤ p1.2.2.2 := hM2
      have h := cd_inl h
      refine hp_callVv (As := [.int 4, .int (cI σ0 329 0)]) (rest := []) cx hw ((kc_X4_refuse l D cA E _ ad _ hj oq sgq sgv hE n σ0 b0 (4 : Int32) ((cI σ0 329 0)) p1 e_q1).2) (cwV 2 cx.2.2.2.2.2.1 (cd_giV cm_660 cm_661 cm_662 cm_663 cm_664) rfl rfl rfl hdc_X4_refuse ⟨Nat.le_of_ble_eq_true rfl, Nat.le_of_ble_eq_true rfl⟩) (cd_atO hj (by decide) (by decide)) rfl rfl hl.1 rfl (Nat.le_of_ble_eq_true rfl) dX4_room_13 ⟨by (try dsimp only); omega, by (try dsimp only); omega⟩ (fun u H locs hp hw => ?_)
      obtain ⟨ca, hj, rfl⟩ := hp
      refine W.widen (k := b0.1 - p1.2.2.1) (n := b0.2 - p1.2.2.2) (by omega) (by omega) ?_
      exact nomatch Option.some.inj h
set_option maxHeartbeats 4000000 in
set_option maxRecDepth 100000 in
theorem kx_X4_takePattern (l : Launch) (D : va_G) (cA : Nat → ClassId) (E : hp_N) (sz : Nat) (ad : Nat → Nat → Nat) (ca0 : Nat → Nat) (hj : cd_inj ad ca0) (oq sgq sgv : Nat) (hE : cd_E E oq sgq sgv) (hX : cd_X l E) (n : Nat) (σ0 : cd_S) (b0 : cd_B) (a1 : Int32) (p : (cd_S × cd_B)) (h : f_X4_takePattern n σ0 b0 a1 = some (Sum.inr p)) : (p.2.1 ≤ b0.1 ∧ p.2.2 ≤ b0.2) ∧ vx_Met l yX4_takePattern (Cond.code yX4_takePattern cX4_takePattern 2 none :: v_CLS) ({ frames := 14, cells := b0.1 - p.2.1, slots := b0.2 - p.2.2, locals := 243 }) (hp_Pc D vwCl (hp_Tl cA) E sz (cd_pic cA ad ca0 σ0) [.ref (ad 4 0), .int a1]) (hp_Qv D vwCl (hp_Tl cA) sz (cd_pic cA ad ca0 σ0) (fun _ => False)) (hp_XQ D vwCl (hp_Tl cA) "java/lang/IllegalArgumentException" (cd_pic cA ad ca0 σ0) sz (fun u => ∃ ca1, cd_inj ad ca1 ∧ u = cd_pic cA ad ca1 p.1)) (b0.1 - p.2.1) (b0.2 - p.2.2) (hp_A (cd_pic cA ad ca0 σ0) sz) := by
  obtain ⟨hm0, hn0, h⟩ := cd_cks h
  have hM0 : p.2.1 ≤ b0.1 ∧ p.2.2 ≤ b0.2 := ⟨hm0, hn0⟩
  refine ⟨hM0, ?_⟩
  refine hp_ofWx (cc := cX4_takePattern) (maxL := 2) (ret := none) (by decide) rfl (Nat.le_of_ble_eq_true rfl) ?_
  intro pp ee ss mm bb mt cd ls cx hsz hw hl hno
  have hl : lv_has ls 2 [(0, .ref (ad 4 0)), (1, .int a1)] := hl
  refine W.widen (k := b0.1 - b0.1) (n := b0.2 - b0.2) (Nat.zero_le _) (Nat.zero_le _) ?_
  have J46 : ∀ (ca : Nat → Nat) (hj : cd_inj ad ca) (σ : cd_S) (b : cd_B) (H : Heap) (locs : List Loc) (ls : Array Slot), b.1 ≤ b0.1 → b.2 ≤ b0.2 → p.2.1 ≤ b.1 → p.2.2 ≤ b.2 → f_X4_takePattern_J46 n σ b = some (Sum.inr p) → hp_w D vwCl (hp_Tl cA) E (hp_A (cd_pic cA ad ca0 σ0) sz) ss H locs (cd_pic cA ad ca σ) → lv_has ls 2 [(0, .ref (ad 4 0))] → W pp l ee ({ frames := 14, cells := b0.1 - p.2.1, slots := b0.2 - p.2.2, locals := 243 }) ss mm [.ref (ad 4 0), .int a1].toArray bb mt cd H locs (b0.1 - b.1) (b0.2 - b.2) (vx_MQ bb (hp_Qv D vwCl (hp_Tl cA) sz (cd_pic cA ad ca0 σ0) (fun _ => False)) (hp_XQ D vwCl (hp_Tl cA) "java/lang/IllegalArgumentException" (cd_pic cA ad ca0 σ0) sz (fun u => ∃ ca1, cd_inj ad ca1 ∧ u = cd_pic cA ad ca1 p.1)) [.ref (ad 4 0), .int a1].toArray ss (b0.1 - p.2.1) (b0.2 - p.2.2) (hp_A (cd_pic cA ad ca0 σ0) sz)) (F0 mm 46 ls []) := by
    intro ca hj σ b H locs ls hb1 hb2 hf1 hf2 h hw hl
    refine lv_aload_n cx.1 cx.2.1 dX4_takePattern_46 rfl (lv_at hl 0 rfl) ?_
    refine cd_gO (o2 := 10) (e2 := 0) (o := 4) (k := 0) (f := 128) hj cx hw hic4 rfl ⟨by decide, rfl, by decide, rfl⟩ rfl (by decide) ⟨rfl, rfl⟩ (List.mem_cons_of_mem _ cm_658) dX4_takePattern_47 ?_
    refine lv_aload_n cx.1 cx.2.1 dX4_takePattern_50 rfl (lv_at hl 0 rfl) ?_
    refine cd_gO (o2 := 5) (e2 := 193) (o := 4) (k := 3) (f := 131) hj cx hw hic4 rfl ⟨by decide, rfl, by decide, rfl⟩ rfl (by decide) ⟨rfl, rfl⟩ (List.mem_cons_of_mem _ cm_682) dX4_takePattern_51 ?_
    obtain ⟨p1, e_p1, h⟩ := md_ob h
    refine hp_callVv (As := [.ref (ad 5 193)]) (rest := []) cx hw (kc_X10_copyPattern l D cA E _ ad _ hj oq sgq sgv hE n σ 193 (by decide) p1 e_p1) (cwV 1 cx.2.2.2.2.2.1 (cd_giV cm_683 cm_684 cm_685 cm_301 cm_686) rfl rfl rfl hdc_X10_copyPattern ⟨Nat.le_of_ble_eq_true rfl, Nat.le_of_ble_eq_true rfl⟩) (cd_atO hj (by decide) (by decide)) rfl rfl hl.1 rfl (Nat.le_of_ble_eq_true rfl) dX4_takePattern_54 ⟨by (try dsimp only); omega, by (try dsimp only); omega⟩ (fun u H locs hp hw => ?_)
    obtain ⟨ca, hj, rfl⟩ := hp
    refine lv_aload_n cx.1 cx.2.1 dX4_takePattern_57 rfl (lv_at hl 0 rfl) ?_
    refine cd_gO (o2 := 10) (e2 := 0) (o := 4) (k := 0) (f := 128) hj cx hw hic4 rfl ⟨by decide, rfl, by decide, rfl⟩ rfl (by decide) ⟨rfl, rfl⟩ (List.mem_cons_of_mem _ cm_658) dX4_takePattern_58 ?_
    obtain ⟨p2, e_p2, h⟩ := md_ob h
    refine hp_callVv (As := []) (rest := []) cx hw (kc_X10_advance l D cA E _ ad _ hj oq sgq sgv hE n p1.2  p2 e_p2) (cwV 0 cx.2.2.2.2.2.1 (cd_giV cm_670 cm_671 cm_672 cm_301 cm_673) rfl rfl rfl hdc_X10_advance ⟨Nat.le_of_ble_eq_true rfl, Nat.le_of_ble_eq_true rfl⟩) (cd_atO hj (by decide) (by decide)) rfl rfl hl.1 rfl (Nat.le_of_ble_eq_true rfl) dX4_takePattern_61 ⟨by (try dsimp only); omega, by (try dsimp only); omega⟩ (fun u H locs hp hw => ?_)
    obtain ⟨ca, hj, rfl⟩ := hp
    exact nomatch Option.some.inj h
  have J17 : ∀ (ca : Nat → Nat) (hj : cd_inj ad ca) (σ : cd_S) (b : cd_B) (l1 : Int32) (t0 : Int32) (H : Heap) (locs : List Loc) (ls : Array Slot), b.1 ≤ b0.1 → b.2 ≤ b0.2 → p.2.1 ≤ b.1 → p.2.2 ≤ b.2 → f_X4_takePattern_J17 n σ b l1 t0 = some (Sum.inr p) → hp_w D vwCl (hp_Tl cA) E (hp_A (cd_pic cA ad ca0 σ0) sz) ss H locs (cd_pic cA ad ca σ) → lv_has ls 2 [(0, .ref (ad 4 0)), (1, .int l1)] → W pp l ee ({ frames := 14, cells := b0.1 - p.2.1, slots := b0.2 - p.2.2, locals := 243 }) ss mm [.ref (ad 4 0), .int a1].toArray bb mt cd H locs (b0.1 - b.1) (b0.2 - b.2) (vx_MQ bb (hp_Qv D vwCl (hp_Tl cA) sz (cd_pic cA ad ca0 σ0) (fun _ => False)) (hp_XQ D vwCl (hp_Tl cA) "java/lang/IllegalArgumentException" (cd_pic cA ad ca0 σ0) sz (fun u => ∃ ca1, cd_inj ad ca1 ∧ u = cd_pic cA ad ca1 p.1)) [.ref (ad 4 0), .int a1].toArray ss (b0.1 - p.2.1) (b0.2 - p.2.2) (hp_A (cd_pic cA ad ca0 σ0) sz)) (F0 mm 17 ls [.int t0, .ref (ad 4 0)]) := by
    intro ca hj σ b l1 t0 H locs ls hb1 hb2 hf1 hf2 h hw hl
    obtain ⟨q3, e_q3, h⟩ := md_ob h
    obtain ⟨hm4, hn4, h⟩ := cd_cks h
    have hM4 : p.2.1 ≤ (Sum.elim (fun (p : Int32 × cd_S × cd_B) => p.2.2) (fun (t : cd_S × cd_B) => t.2) q3).1 ∧ p.2.2 ≤ (Sum.elim (fun (p : Int32 × cd_S × cd_B) => p.2.2) (fun (t : cd_S × cd_B) => t.2) q3).2 := ⟨hm4, hn4⟩
    cases q3 with
    | inr t3 =>
      obtain rfl : t3 = p := Sum.inr.inj (Option.some.inj h)
      have hlx3 := (kx_X4_need l D cA E sz ad _ hj oq sgq sgv hE hX n σ b t0 t3 e_q3).1
      exact hp_callQv (As := [.int t0]) (rest := []) cx hw hno ((kx_X4_need l D cA E _ ad _ hj oq sgq sgv hE hX n σ b t0 t3 e_q3).2) (cwV 1 cx.2.2.2.2.2.1 (cd_giV cm_666 cm_667 cm_668 cm_663 cm_669) rfl rfl rfl hdc_X4_need ⟨Nat.le_of_ble_eq_true rfl, Nat.le_of_ble_eq_true rfl⟩) (cd_atO hj (by decide) (by decide)) rfl rfl hl.1 rfl (Nat.le_of_ble_eq_true rfl) dX4_takePattern_17 ⟨by (try dsimp only); omega, by (try dsimp only); omega⟩ (by omega) (by omega)
    | inl p3 =>
      have hle3 := (kc_X4_need l D cA E sz ad _ hj oq sgq sgv hE n σ b t0 p3 e_q3).1
      have hM10004 : p.2.1 ≤ p3.2.2.1 ∧ p.2.2 ≤ p3.2.2.2 := hM4
      have h := cd_inl h
      refine hp_callVv (As := [.int t0]) (rest := []) cx hw ((kc_X4_need l D cA E _ ad _ hj oq sgq sgv hE n σ b t0 p3 e_q3).2) (cwV 1 cx.2.2.2.2.2.1 (cd_giV cm_666 cm_667 cm_668 cm_663 cm_669) rfl rfl rfl hdc_X4_need ⟨Nat.le_of_ble_eq_true rfl, Nat.le_of_ble_eq_true rfl⟩) (cd_atO hj (by decide) (by decide)) rfl rfl hl.1 rfl (Nat.le_of_ble_eq_true rfl) dX4_takePattern_17 ⟨by (try dsimp only); omega, by (try dsimp only); omega⟩ (fun u H locs hp hw => ?_)
      obtain ⟨ca, hj, rfl⟩ := hp
      refine W.widen (k := b0.1 - p3.2.2.1) (n := b0.2 - p3.2.2.2) (by omega) (by omega) ?_
      refine lv_iload_n cx.1 cx.2.1 dX4_takePattern_20 rfl (lv_at hl 1 rfl) ?_
      refine lv_if_eq (tgt := 46) cx.1 cx.2.1 dX4_takePattern_21 (by decide) (fun c21 => ?_) (fun c21 => ?_)
      · have h := md_ip c21 h
        exact J46 _ hj p3.2.1 (p3.2.2) _ _ _ (by omega) (by omega) (by omega) (by omega) h hw (lv_sub hl [0] rfl)
      · have h := md_in c21 h
        refine lv_aload_n cx.1 cx.2.1 dX4_takePattern_24 rfl (lv_at hl 0 rfl) ?_
        refine cd_gO (o2 := 10) (e2 := 0) (o := 4) (k := 0) (f := 128) hj cx hw hic4 rfl ⟨by decide, rfl, by decide, rfl⟩ rfl (by decide) ⟨rfl, rfl⟩ (List.mem_cons_of_mem _ cm_658) dX4_takePattern_25 ?_
        obtain ⟨p5, e_p5, h⟩ := md_ob h
        refine hp_callVi (As := []) (rest := []) cx hw (kc_X10_hasTail l D cA E _ ad _ hj oq sgq sgv hE n p3.2.1  p5 e_p5) (cwV 0 cx.2.2.2.2.2.1 (cd_giV cm_678 cm_679 cm_680 cm_301 cm_681) rfl rfl rfl hdc_X10_hasTail ⟨Nat.le_of_ble_eq_true rfl, Nat.le_of_ble_eq_true rfl⟩) (cd_atO hj (by decide) (by decide)) rfl rfl hl.1 rfl (Nat.le_of_ble_eq_true rfl) dX4_takePattern_28 ⟨by (try dsimp only); omega, by (try dsimp only); omega⟩ (fun r u H locs hp hw => ?_)
        obtain ⟨rfl, ca, hj, rfl⟩ := hp
        refine lv_if_eq (tgt := 46) cx.1 cx.2.1 dX4_takePattern_31 (by decide) (fun c31 => ?_) (fun c31 => ?_)
        · have h := md_ip c31 h
          exact J46 _ hj p5.2 (p3.2.2) _ _ _ (by omega) (by omega) (by omega) (by omega) h hw (lv_sub hl [0] rfl)
        · have h := md_in c31 h
          refine lv_aload_n cx.1 cx.2.1 dX4_takePattern_34 rfl (lv_at hl 0 rfl) ?_
          refine lv_iconst (v := 5) cx.1 cx.2.1 dX4_takePattern_35 (by decide) ?_
          refine lv_aload_n cx.1 cx.2.1 dX4_takePattern_36 rfl (lv_at hl 0 rfl) ?_
          refine cd_gO (o2 := 10) (e2 := 0) (o := 4) (k := 0) (f := 128) hj cx hw hic4 rfl ⟨by decide, rfl, by decide, rfl⟩ rfl (by decide) ⟨rfl, rfl⟩ (List.mem_cons_of_mem _ cm_658) dX4_takePattern_37 ?_
          refine cd_gI (o := 10) (k := 9) (f := 329) hj cx hw hic10 rfl ⟨by decide, rfl, by decide, rfl⟩ rfl (by decide) (List.mem_cons_of_mem _ cm_659) dX4_takePattern_40 ?_
          obtain ⟨q6, e_q6, h⟩ := md_ob h
          obtain ⟨hm7, hn7, h⟩ := cd_cks h
          have hM7 : p.2.1 ≤ (Sum.elim (fun (p : Int32 × cd_S × cd_B) => p.2.2) (fun (t : cd_S × cd_B) => t.2) q6).1 ∧ p.2.2 ≤ (Sum.elim (fun (p : Int32 × cd_S × cd_B) => p.2.2) (fun (t : cd_S × cd_B) => t.2) q6).2 := ⟨hm7, hn7⟩
          cases q6 with
          | inr t6 =>
            obtain rfl : t6 = p := Sum.inr.inj (Option.some.inj h)
            have hlx6 := (kx_X4_refuse l D cA E sz ad _ hj oq sgq sgv hE hX n p5.2 (p3.2.2) (5 : Int32) ((cI p5.2 329 0)) t6 e_q6).1
            exact hp_callQv (As := [.int 5, .int (cI p5.2 329 0)]) (rest := []) cx hw hno ((kx_X4_refuse l D cA E _ ad _ hj oq sgq sgv hE hX n p5.2 (p3.2.2) (5 : Int32) ((cI p5.2 329 0)) t6 e_q6).2) (cwV 2 cx.2.2.2.2.2.1 (cd_giV cm_660 cm_661 cm_662 cm_663 cm_664) rfl rfl rfl hdc_X4_refuse ⟨Nat.le_of_ble_eq_true rfl, Nat.le_of_ble_eq_true rfl⟩) (cd_atO hj (by decide) (by decide)) rfl rfl hl.1 rfl (Nat.le_of_ble_eq_true rfl) dX4_takePattern_43 ⟨by (try dsimp only); omega, by (try dsimp only); omega⟩ (by omega) (by omega)
          | inl p6 =>
            have hle6 := (kc_X4_refuse l D cA E sz ad _ hj oq sgq sgv hE n p5.2 (p3.2.2) (5 : Int32) ((cI p5.2 329 0)) p6 e_q6).1
            have hM10007 : p.2.1 ≤ p6.2.2.1 ∧ p.2.2 ≤ p6.2.2.2 := hM7
            have h := cd_inl h
            refine hp_callVv (As := [.int 5, .int (cI p5.2 329 0)]) (rest := []) cx hw ((kc_X4_refuse l D cA E _ ad _ hj oq sgq sgv hE n p5.2 (p3.2.2) (5 : Int32) ((cI p5.2 329 0)) p6 e_q6).2) (cwV 2 cx.2.2.2.2.2.1 (cd_giV cm_660 cm_661 cm_662 cm_663 cm_664) rfl rfl rfl hdc_X4_refuse ⟨Nat.le_of_ble_eq_true rfl, Nat.le_of_ble_eq_true rfl⟩) (cd_atO hj (by decide) (by decide)) rfl rfl hl.1 rfl (Nat.le_of_ble_eq_true rfl) dX4_takePattern_43 ⟨by (try dsimp only); omega, by (try dsimp only); omega⟩ (fun u H locs hp hw => ?_)
            obtain ⟨ca, hj, rfl⟩ := hp
            refine W.widen (k := b0.1 - p6.2.2.1) (n := b0.2 - p6.2.2.2) (by omega) (by omega) ?_
            exact J46 _ hj p6.2.1 (p6.2.2) _ _ _ (by omega) (by omega) (by omega) (by omega) h hw (lv_sub hl [0] rfl)
  refine lv_aload_n cx.1 cx.2.1 dX4_takePattern_0 rfl (lv_at hl 0 rfl) ?_
  refine lv_aload_n cx.1 cx.2.1 dX4_takePattern_1 rfl (lv_at hl 0 rfl) ?_
  refine cd_gO (o2 := 10) (e2 := 0) (o := 4) (k := 0) (f := 128) hj cx hw hic4 rfl ⟨by decide, rfl, by decide, rfl⟩ rfl (by decide) ⟨rfl, rfl⟩ (List.mem_cons_of_mem _ cm_658) dX4_takePattern_2 ?_
  refine cd_gI (o := 10) (k := 8) (f := 328) hj cx hw hic10 rfl ⟨by decide, rfl, by decide, rfl⟩ rfl (by decide) (List.mem_cons_of_mem _ cm_665) dX4_takePattern_5 ?_
  refine lv_iconst (v := 4) cx.1 cx.2.1 dX4_takePattern_8 (by decide) ?_
  refine lv_icmp_ne (tgt := 16) cx.1 cx.2.1 dX4_takePattern_9 (by decide) (fun c9 => ?_) (fun c9 => ?_)
  · have h := md_in c9 h
    refine lv_iconst (v := 0) cx.1 cx.2.1 dX4_takePattern_16 (by decide) ?_
    exact J17 _ hj σ0 b0 a1 0 _ _ _ (by omega) (by omega) (by omega) (by omega) h hw (lv_sub hl [0, 1] rfl)
  · have h := md_ip c9 h
    refine lv_iconst (v := 1) cx.1 cx.2.1 dX4_takePattern_12 (by decide) ?_
    refine lv_goto (tgt := 17) cx.1 cx.2.1 dX4_takePattern_13 (by decide) ?_
    exact J17 _ hj σ0 b0 a1 1 _ _ _ (by omega) (by omega) (by omega) (by omega) h hw (lv_sub hl [0, 1] rfl)
set_option maxHeartbeats 4000000 in
set_option maxRecDepth 100000 in
theorem kx_X4_readRight (l : Launch) (D : va_G) (cA : Nat → ClassId) (E : hp_N) (sz : Nat) (ad : Nat → Nat → Nat) (ca0 : Nat → Nat) (hj : cd_inj ad ca0) (oq sgq sgv : Nat) (hE : cd_E E oq sgq sgv) (hX : cd_X l E) (n : Nat) (σ0 : cd_S) (b0 : cd_B) (a1 : Int32) (a2 : Int32) (p : (cd_S × cd_B)) (h : f_X4_readRight n σ0 b0 a1 a2 = some (Sum.inr p)) : (p.2.1 ≤ b0.1 ∧ p.2.2 ≤ b0.2) ∧ vx_Met l yX4_readRight (Cond.code yX4_readRight cX4_readRight 3 none :: v_CLS) ({ frames := 15, cells := b0.1 - p.2.1, slots := b0.2 - p.2.2, locals := 264 }) (hp_Pc D vwCl (hp_Tl cA) E sz (cd_pic cA ad ca0 σ0) [.ref (ad 4 0), .int a1, .int a2]) (hp_Qv D vwCl (hp_Tl cA) sz (cd_pic cA ad ca0 σ0) (fun _ => False)) (hp_XQ D vwCl (hp_Tl cA) "java/lang/IllegalArgumentException" (cd_pic cA ad ca0 σ0) sz (fun u => ∃ ca1, cd_inj ad ca1 ∧ u = cd_pic cA ad ca1 p.1)) (b0.1 - p.2.1) (b0.2 - p.2.2) (hp_A (cd_pic cA ad ca0 σ0) sz) := by
  obtain ⟨hm0, hn0, h⟩ := cd_cks h
  have hM0 : p.2.1 ≤ b0.1 ∧ p.2.2 ≤ b0.2 := ⟨hm0, hn0⟩
  refine ⟨hM0, ?_⟩
  refine hp_ofWx (cc := cX4_readRight) (maxL := 3) (ret := none) (by decide) rfl (Nat.le_of_ble_eq_true rfl) ?_
  intro pp ee ss mm bb mt cd ls cx hsz hw hl hno
  have hl : lv_has ls 3 [(0, .ref (ad 4 0)), (1, .int a1), (2, .int a2)] := hl
  refine W.widen (k := b0.1 - b0.1) (n := b0.2 - b0.2) (Nat.zero_le _) (Nat.zero_le _) ?_
  have J16 : ∀ (ca : Nat → Nat) (hj : cd_inj ad ca) (σ : cd_S) (b : cd_B) (l2 : Int32) (t0 : Int32) (H : Heap) (locs : List Loc) (ls : Array Slot), b.1 ≤ b0.1 → b.2 ≤ b0.2 → p.2.1 ≤ b.1 → p.2.2 ≤ b.2 → f_X4_readRight_J16 n σ b l2 t0 = some (Sum.inr p) → hp_w D vwCl (hp_Tl cA) E (hp_A (cd_pic cA ad ca0 σ0) sz) ss H locs (cd_pic cA ad ca σ) → lv_has ls 3 [(0, .ref (ad 4 0)), (2, .int l2)] → W pp l ee ({ frames := 15, cells := b0.1 - p.2.1, slots := b0.2 - p.2.2, locals := 264 }) ss mm [.ref (ad 4 0), .int a1, .int a2].toArray bb mt cd H locs (b0.1 - b.1) (b0.2 - b.2) (vx_MQ bb (hp_Qv D vwCl (hp_Tl cA) sz (cd_pic cA ad ca0 σ0) (fun _ => False)) (hp_XQ D vwCl (hp_Tl cA) "java/lang/IllegalArgumentException" (cd_pic cA ad ca0 σ0) sz (fun u => ∃ ca1, cd_inj ad ca1 ∧ u = cd_pic cA ad ca1 p.1)) [.ref (ad 4 0), .int a1, .int a2].toArray ss (b0.1 - p.2.1) (b0.2 - p.2.2) (hp_A (cd_pic cA ad ca0 σ0) sz)) (F0 mm 16 ls [.int t0, .ref (ad 4 0)]) := by
    intro ca hj σ b l2 t0 H locs ls hb1 hb2 hf1 hf2 h hw hl
    obtain ⟨q1, e_q1, h⟩ := md_ob h
    obtain ⟨hm2, hn2, h⟩ := cd_cks h
    have hM2 : p.2.1 ≤ (Sum.elim (fun (p : Int32 × cd_S × cd_B) => p.2.2) (fun (t : cd_S × cd_B) => t.2) q1).1 ∧ p.2.2 ≤ (Sum.elim (fun (p : Int32 × cd_S × cd_B) => p.2.2) (fun (t : cd_S × cd_B) => t.2) q1).2 := ⟨hm2, hn2⟩
    cases q1 with
    | inr t1 =>
      obtain rfl : t1 = p := Sum.inr.inj (Option.some.inj h)
      have hlx1 := (kx_X4_room l D cA E sz ad _ hj oq sgq sgv hE hX n σ b t0 t1 e_q1).1
      exact hp_callQv (As := [.int t0]) (rest := []) cx hw hno ((kx_X4_room l D cA E _ ad _ hj oq sgq sgv hE hX n σ b t0 t1 e_q1).2) (cwV 1 cx.2.2.2.2.2.1 (cd_giV cm_691 cm_692 cm_693 cm_663 cm_694) rfl rfl rfl hdc_X4_room ⟨Nat.le_of_ble_eq_true rfl, Nat.le_of_ble_eq_true rfl⟩) (cd_atO hj (by decide) (by decide)) rfl rfl hl.1 rfl (Nat.le_of_ble_eq_true rfl) dX4_readRight_16 ⟨by (try dsimp only); omega, by (try dsimp only); omega⟩ (by omega) (by omega)
    | inl p1 =>
      have hle1 := (kc_X4_room l D cA E sz ad _ hj oq sgq sgv hE n σ b t0 p1 e_q1).1
      have hM10002 : p.2.1 ≤ p1.2.2.1 ∧ p.2.2 ≤ p1.2.2.2 := hM2
      have h := cd_inl h
      refine hp_callVv (As := [.int t0]) (rest := []) cx hw ((kc_X4_room l D cA E _ ad _ hj oq sgq sgv hE n σ b t0 p1 e_q1).2) (cwV 1 cx.2.2.2.2.2.1 (cd_giV cm_691 cm_692 cm_693 cm_663 cm_694) rfl rfl rfl hdc_X4_room ⟨Nat.le_of_ble_eq_true rfl, Nat.le_of_ble_eq_true rfl⟩) (cd_atO hj (by decide) (by decide)) rfl rfl hl.1 rfl (Nat.le_of_ble_eq_true rfl) dX4_readRight_16 ⟨by (try dsimp only); omega, by (try dsimp only); omega⟩ (fun u H locs hp hw => ?_)
      obtain ⟨ca, hj, rfl⟩ := hp
      refine W.widen (k := b0.1 - p1.2.2.1) (n := b0.2 - p1.2.2.2) (by omega) (by omega) ?_
      refine lv_aload_n cx.1 cx.2.1 dX4_readRight_19 rfl (lv_at hl 0 rfl) ?_
      refine cd_gO (o2 := 5) (e2 := 193) (o := 4) (k := 3) (f := 131) hj cx hw hic4 rfl ⟨by decide, rfl, by decide, rfl⟩ rfl (by decide) ⟨rfl, rfl⟩ (List.mem_cons_of_mem _ cm_682) dX4_readRight_20 ?_
      refine lv_aload_n cx.1 cx.2.1 dX4_readRight_23 rfl (lv_at hl 0 rfl) ?_
      refine cd_gO (o2 := 10) (e2 := 0) (o := 4) (k := 0) (f := 128) hj cx hw hic4 rfl ⟨by decide, rfl, by decide, rfl⟩ rfl (by decide) ⟨rfl, rfl⟩ (List.mem_cons_of_mem _ cm_658) dX4_readRight_24 ?_
      refine cd_gJ (o := 10) (k := 10) (f := 330) hj cx hw hic10 rfl ⟨by decide, rfl, by decide, rfl⟩ rfl (by decide) (List.mem_cons_of_mem _ cm_695) dX4_readRight_27 ?_
      obtain ⟨σ3, e_σ3, h⟩ := md_ob h
      refine cd_pJ (o := 5) (k := 0) (f := 160) hj cx hw hic5 rfl ⟨by decide, rfl, by decide, rfl⟩ tyX5_ok nmX5 rfl (by decide) rfl (List.mem_cons_of_mem _ cm_696) rfl e_σ3 dX4_readRight_30 (fun H locs hw => ?_)
      refine lv_aload_n cx.1 cx.2.1 dX4_readRight_33 rfl (lv_at hl 0 rfl) ?_
      refine cd_gO (o2 := 10) (e2 := 0) (o := 4) (k := 0) (f := 128) hj cx hw hic4 rfl ⟨by decide, rfl, by decide, rfl⟩ rfl (by decide) ⟨rfl, rfl⟩ (List.mem_cons_of_mem _ cm_658) dX4_readRight_34 ?_
      obtain ⟨p4, e_p4, h⟩ := md_ob h
      refine hp_callVv (As := []) (rest := []) cx hw (kc_X10_advance l D cA E _ ad _ hj oq sgq sgv hE n σ3  p4 e_p4) (cwV 0 cx.2.2.2.2.2.1 (cd_giV cm_670 cm_671 cm_672 cm_301 cm_673) rfl rfl rfl hdc_X10_advance ⟨Nat.le_of_ble_eq_true rfl, Nat.le_of_ble_eq_true rfl⟩) (cd_atO hj (by decide) (by decide)) rfl rfl hl.1 rfl (Nat.le_of_ble_eq_true rfl) dX4_readRight_37 ⟨by (try dsimp only); omega, by (try dsimp only); omega⟩ (fun u H locs hp hw => ?_)
      obtain ⟨ca, hj, rfl⟩ := hp
      refine lv_aload_n cx.1 cx.2.1 dX4_readRight_40 rfl (lv_at hl 0 rfl) ?_
      refine lv_iconst (v := 0) cx.1 cx.2.1 dX4_readRight_41 (by decide) ?_
      obtain ⟨q5, e_q5, h⟩ := md_ob h
      obtain ⟨hm6, hn6, h⟩ := cd_cks h
      have hM6 : p.2.1 ≤ (Sum.elim (fun (p : Int32 × cd_S × cd_B) => p.2.2) (fun (t : cd_S × cd_B) => t.2) q5).1 ∧ p.2.2 ≤ (Sum.elim (fun (p : Int32 × cd_S × cd_B) => p.2.2) (fun (t : cd_S × cd_B) => t.2) q5).2 := ⟨hm6, hn6⟩
      cases q5 with
      | inr t5 =>
        obtain rfl : t5 = p := Sum.inr.inj (Option.some.inj h)
        have hlx5 := (kx_X4_takePattern l D cA E sz ad _ hj oq sgq sgv hE hX n p4.2 (p1.2.2) (0 : Int32) t5 e_q5).1
        exact hp_callQv (As := [.int 0]) (rest := []) cx hw hno ((kx_X4_takePattern l D cA E _ ad _ hj oq sgq sgv hE hX n p4.2 (p1.2.2) (0 : Int32) t5 e_q5).2) (cwV 1 cx.2.2.2.2.2.1 (cd_giV cm_697 cm_698 cm_699 cm_663 cm_700) rfl rfl rfl hdc_X4_takePattern ⟨Nat.le_of_ble_eq_true rfl, Nat.le_of_ble_eq_true rfl⟩) (cd_atO hj (by decide) (by decide)) rfl rfl hl.1 rfl (Nat.le_of_ble_eq_true rfl) dX4_readRight_42 ⟨by (try dsimp only); omega, by (try dsimp only); omega⟩ (by omega) (by omega)
      | inl p5 =>
        have hle5 := (kc_X4_takePattern l D cA E sz ad _ hj oq sgq sgv hE n p4.2 (p1.2.2) (0 : Int32) p5 e_q5).1
        have hM10006 : p.2.1 ≤ p5.2.2.1 ∧ p.2.2 ≤ p5.2.2.2 := hM6
        have h := cd_inl h
        refine hp_callVv (As := [.int 0]) (rest := []) cx hw ((kc_X4_takePattern l D cA E _ ad _ hj oq sgq sgv hE n p4.2 (p1.2.2) (0 : Int32) p5 e_q5).2) (cwV 1 cx.2.2.2.2.2.1 (cd_giV cm_697 cm_698 cm_699 cm_663 cm_700) rfl rfl rfl hdc_X4_takePattern ⟨Nat.le_of_ble_eq_true rfl, Nat.le_of_ble_eq_true rfl⟩) (cd_atO hj (by decide) (by decide)) rfl rfl hl.1 rfl (Nat.le_of_ble_eq_true rfl) dX4_readRight_42 ⟨by (try dsimp only); omega, by (try dsimp only); omega⟩ (fun u H locs hp hw => ?_)
        obtain ⟨ca, hj, rfl⟩ := hp
        refine W.widen (k := b0.1 - p5.2.2.1) (n := b0.2 - p5.2.2.2) (by omega) (by omega) ?_
        refine lv_iload_n cx.1 cx.2.1 dX4_readRight_45 rfl (lv_at hl 1 rfl) ?_
        refine lv_if_eq (tgt := 63) cx.1 cx.2.1 dX4_readRight_46 (by decide) (fun c46 => ?_) (fun c46 => ?_)
        · have h := md_ip c46 h
          refine lv_aload_n cx.1 cx.2.1 dX4_readRight_63 rfl (lv_at hl 0 rfl) ?_
          refine cd_gO (o2 := 3) (e2 := 0) (o := 4) (k := 2) (f := 130) hj cx hw hic4 rfl ⟨by decide, rfl, by decide, rfl⟩ rfl (by decide) ⟨rfl, rfl⟩ (List.mem_cons_of_mem _ cm_701) dX4_readRight_64 ?_
          refine lv_aload_n cx.1 cx.2.1 dX4_readRight_67 rfl (lv_at hl 0 rfl) ?_
          refine cd_gO (o2 := 5) (e2 := 193) (o := 4) (k := 3) (f := 131) hj cx hw hic4 rfl ⟨by decide, rfl, by decide, rfl⟩ rfl (by decide) ⟨rfl, rfl⟩ (List.mem_cons_of_mem _ cm_682) dX4_readRight_68 ?_
          obtain ⟨p7, e_p7, h⟩ := md_ob h
          refine hp_callVv (As := [.ref (ad 5 193)]) (rest := []) cx hw (kc_X3_addGrantRight l D cA E _ ad _ hj oq sgq sgv hE n p5.2.1 193 (by decide) p7 e_p7) (cwV 1 cx.2.2.2.2.2.1 (cd_giV cm_702 cm_703 cm_704 cm_332 cm_705) rfl rfl rfl hdc_X3_addGrantRight ⟨Nat.le_of_ble_eq_true rfl, Nat.le_of_ble_eq_true rfl⟩) (cd_atO hj (by decide) (by decide)) rfl rfl hl.1 rfl (Nat.le_of_ble_eq_true rfl) dX4_readRight_71 ⟨by (try dsimp only); omega, by (try dsimp only); omega⟩ (fun u H locs hp hw => ?_)
          obtain ⟨ca, hj, rfl⟩ := hp
          exact nomatch Option.some.inj h
        · have h := md_in c46 h
          refine lv_aload_n cx.1 cx.2.1 dX4_readRight_49 rfl (lv_at hl 0 rfl) ?_
          refine cd_gO (o2 := 3) (e2 := 0) (o := 4) (k := 2) (f := 130) hj cx hw hic4 rfl ⟨by decide, rfl, by decide, rfl⟩ rfl (by decide) ⟨rfl, rfl⟩ (List.mem_cons_of_mem _ cm_701) dX4_readRight_50 ?_
          refine lv_aload_n cx.1 cx.2.1 dX4_readRight_53 rfl (lv_at hl 0 rfl) ?_
          refine cd_gO (o2 := 5) (e2 := 193) (o := 4) (k := 3) (f := 131) hj cx hw hic4 rfl ⟨by decide, rfl, by decide, rfl⟩ rfl (by decide) ⟨rfl, rfl⟩ (List.mem_cons_of_mem _ cm_682) dX4_readRight_54 ?_
          obtain ⟨p8, e_p8, h⟩ := md_ob h
          refine hp_callVv (As := [.ref (ad 5 193)]) (rest := []) cx hw (kc_X3_addLimitRight l D cA E _ ad _ hj oq sgq sgv hE n p5.2.1 193 (by decide) p8 e_p8) (cwV 1 cx.2.2.2.2.2.1 (cd_giV cm_706 cm_707 cm_708 cm_332 cm_709) rfl rfl rfl hdc_X3_addLimitRight ⟨Nat.le_of_ble_eq_true rfl, Nat.le_of_ble_eq_true rfl⟩) (cd_atO hj (by decide) (by decide)) rfl rfl hl.1 rfl (Nat.le_of_ble_eq_true rfl) dX4_readRight_57 ⟨by (try dsimp only); omega, by (try dsimp only); omega⟩ (fun u H locs hp hw => ?_)
          obtain ⟨ca, hj, rfl⟩ := hp
          refine lv_goto (tgt := 74) cx.1 cx.2.1 dX4_readRight_60 (by decide) ?_
          exact nomatch Option.some.inj h
  refine lv_aload_n cx.1 cx.2.1 dX4_readRight_0 rfl (lv_at hl 0 rfl) ?_
  obtain ⟨q9, e_q9, h⟩ := md_ob h
  obtain ⟨hm10, hn10, h⟩ := cd_cks h
  have hM10 : p.2.1 ≤ (Sum.elim (fun (p : Int32 × cd_S × cd_B) => p.2.2) (fun (t : cd_S × cd_B) => t.2) q9).1 ∧ p.2.2 ≤ (Sum.elim (fun (p : Int32 × cd_S × cd_B) => p.2.2) (fun (t : cd_S × cd_B) => t.2) q9).2 := ⟨hm10, hn10⟩
  cases q9 with
  | inr t9 =>
    obtain rfl : t9 = p := Sum.inr.inj (Option.some.inj h)
    have hlx9 := (kx_X4_needName l D cA E sz ad _ hj oq sgq sgv hE hX n σ0 b0  t9 e_q9).1
    exact hp_callQv (As := []) (rest := []) cx hw hno ((kx_X4_needName l D cA E _ ad _ hj oq sgq sgv hE hX n σ0 b0  t9 e_q9).2) (cwV 0 cx.2.2.2.2.2.1 (cd_giV cm_687 cm_688 cm_689 cm_663 cm_690) rfl rfl rfl hdc_X4_needName ⟨Nat.le_of_ble_eq_true rfl, Nat.le_of_ble_eq_true rfl⟩) (cd_atO hj (by decide) (by decide)) rfl rfl hl.1 rfl (Nat.le_of_ble_eq_true rfl) dX4_readRight_1 ⟨by (try dsimp only); omega, by (try dsimp only); omega⟩ (by omega) (by omega)
  | inl p9 =>
    have hle9 := (kc_X4_needName l D cA E sz ad _ hj oq sgq sgv hE n σ0 b0  p9 e_q9).1
    have hM10010 : p.2.1 ≤ p9.2.2.1 ∧ p.2.2 ≤ p9.2.2.2 := hM10
    have h := cd_inl h
    refine hp_callVv (As := []) (rest := []) cx hw ((kc_X4_needName l D cA E _ ad _ hj oq sgq sgv hE n σ0 b0  p9 e_q9).2) (cwV 0 cx.2.2.2.2.2.1 (cd_giV cm_687 cm_688 cm_689 cm_663 cm_690) rfl rfl rfl hdc_X4_needName ⟨Nat.le_of_ble_eq_true rfl, Nat.le_of_ble_eq_true rfl⟩) (cd_atO hj (by decide) (by decide)) rfl rfl hl.1 rfl (Nat.le_of_ble_eq_true rfl) dX4_readRight_1 ⟨by (try dsimp only); omega, by (try dsimp only); omega⟩ (fun u H locs hp hw => ?_)
    obtain ⟨ca, hj, rfl⟩ := hp
    refine W.widen (k := b0.1 - p9.2.2.1) (n := b0.2 - p9.2.2.2) (by omega) (by omega) ?_
    refine lv_aload_n cx.1 cx.2.1 dX4_readRight_4 rfl (lv_at hl 0 rfl) ?_
    refine lv_iload_n cx.1 cx.2.1 dX4_readRight_5 rfl (lv_at hl 1 rfl) ?_
    refine lv_bipush (v := 8) cx.1 cx.2.1 dX4_readRight_6 (by decide) ?_
    refine lv_icmp_ge (tgt := 15) cx.1 cx.2.1 dX4_readRight_8 (by decide) (fun c8 => ?_) (fun c8 => ?_)
    · have h := md_ip c8 h
      refine lv_iconst (v := 0) cx.1 cx.2.1 dX4_readRight_15 (by decide) ?_
      exact J16 _ hj p9.2.1 (p9.2.2) a2 0 _ _ _ (by omega) (by omega) (by omega) (by omega) h hw (lv_sub hl [0, 2] rfl)
    · have h := md_in c8 h
      refine lv_iconst (v := 1) cx.1 cx.2.1 dX4_readRight_11 (by decide) ?_
      refine lv_goto (tgt := 16) cx.1 cx.2.1 dX4_readRight_12 (by decide) ?_
      exact J16 _ hj p9.2.1 (p9.2.2) a2 1 _ _ _ (by omega) (by omega) (by omega) (by omega) h hw (lv_sub hl [0, 2] rfl)
set_option maxHeartbeats 4000000 in
set_option maxRecDepth 100000 in
theorem kx_X4_readGrant (l : Launch) (D : va_G) (cA : Nat → ClassId) (E : hp_N) (sz : Nat) (ad : Nat → Nat → Nat) (ca0 : Nat → Nat) (hj : cd_inj ad ca0) (oq sgq sgv : Nat) (hE : cd_E E oq sgq sgv) (hX : cd_X l E) (n : Nat) (σ0 : cd_S) (b0 : cd_B) (p : (cd_S × cd_B)) (h : f_X4_readGrant n σ0 b0 = some (Sum.inr p)) : (p.2.1 ≤ b0.1 ∧ p.2.2 ≤ b0.2) ∧ vx_Met l yX4_readGrant (Cond.code yX4_readGrant cX4_readGrant 2 none :: v_CLS) ({ frames := 16, cells := b0.1 - p.2.1, slots := b0.2 - p.2.2, locals := 286 }) (hp_Pc D vwCl (hp_Tl cA) E sz (cd_pic cA ad ca0 σ0) [.ref (ad 4 0)]) (hp_Qv D vwCl (hp_Tl cA) sz (cd_pic cA ad ca0 σ0) (fun _ => False)) (hp_XQ D vwCl (hp_Tl cA) "java/lang/IllegalArgumentException" (cd_pic cA ad ca0 σ0) sz (fun u => ∃ ca1, cd_inj ad ca1 ∧ u = cd_pic cA ad ca1 p.1)) (b0.1 - p.2.1) (b0.2 - p.2.2) (hp_A (cd_pic cA ad ca0 σ0) sz) := by
  obtain ⟨hm0, hn0, h⟩ := cd_cks h
  have hM0 : p.2.1 ≤ b0.1 ∧ p.2.2 ≤ b0.2 := ⟨hm0, hn0⟩
  refine ⟨hM0, ?_⟩
  refine hp_ofWx (cc := cX4_readGrant) (maxL := 2) (ret := none) (by decide) rfl (Nat.le_of_ble_eq_true rfl) ?_
  intro pp ee ss mm bb mt cd ls cx hsz hw hl hno
  have hl : lv_has ls 2 [(0, .ref (ad 4 0))] := hl
  refine W.widen (k := b0.1 - b0.1) (n := b0.2 - b0.2) (Nat.zero_le _) (Nat.zero_le _) ?_
  refine lv_aload_n cx.1 cx.2.1 dX4_readGrant_0 rfl (lv_at hl 0 rfl) ?_
  refine cd_gO (o2 := 10) (e2 := 0) (o := 4) (k := 0) (f := 128) hj cx hw hic4 rfl ⟨by decide, rfl, by decide, rfl⟩ rfl (by decide) ⟨rfl, rfl⟩ (List.mem_cons_of_mem _ cm_658) dX4_readGrant_1 ?_
  obtain ⟨p1, e_p1, h⟩ := md_ob h
  refine hp_callVv (As := []) (rest := []) cx hw (kc_X10_advance l D cA E _ ad _ hj oq sgq sgv hE n σ0  p1 e_p1) (cwV 0 cx.2.2.2.2.2.1 (cd_giV cm_670 cm_671 cm_672 cm_301 cm_673) rfl rfl rfl hdc_X10_advance ⟨Nat.le_of_ble_eq_true rfl, Nat.le_of_ble_eq_true rfl⟩) (cd_atO hj (by decide) (by decide)) rfl rfl hl.1 rfl (Nat.le_of_ble_eq_true rfl) dX4_readGrant_4 ⟨by (try dsimp only); omega, by (try dsimp only); omega⟩ (fun u H locs hp hw => ?_)
  obtain ⟨ca, hj, rfl⟩ := hp
  refine lv_aload_n cx.1 cx.2.1 dX4_readGrant_7 rfl (lv_at hl 0 rfl) ?_
  refine lv_iconst (v := 0) cx.1 cx.2.1 dX4_readGrant_8 (by decide) ?_
  obtain ⟨q2, e_q2, h⟩ := md_ob h
  obtain ⟨hm3, hn3, h⟩ := cd_cks h
  have hM3 : p.2.1 ≤ (Sum.elim (fun (p : Int32 × cd_S × cd_B) => p.2.2) (fun (t : cd_S × cd_B) => t.2) q2).1 ∧ p.2.2 ≤ (Sum.elim (fun (p : Int32 × cd_S × cd_B) => p.2.2) (fun (t : cd_S × cd_B) => t.2) q2).2 := ⟨hm3, hn3⟩
  cases q2 with
  | inr t2 =>
    obtain rfl : t2 = p := Sum.inr.inj (Option.some.inj h)
    have hlx2 := (kx_X4_takePattern l D cA E sz ad _ hj oq sgq sgv hE hX n p1.2 b0 (0 : Int32) t2 e_q2).1
    exact hp_callQv (As := [.int 0]) (rest := []) cx hw hno ((kx_X4_takePattern l D cA E _ ad _ hj oq sgq sgv hE hX n p1.2 b0 (0 : Int32) t2 e_q2).2) (cwV 1 cx.2.2.2.2.2.1 (cd_giV cm_697 cm_698 cm_699 cm_663 cm_700) rfl rfl rfl hdc_X4_takePattern ⟨Nat.le_of_ble_eq_true rfl, Nat.le_of_ble_eq_true rfl⟩) (cd_atO hj (by decide) (by decide)) rfl rfl hl.1 rfl (Nat.le_of_ble_eq_true rfl) dX4_readGrant_9 ⟨by (try dsimp only); omega, by (try dsimp only); omega⟩ (by omega) (by omega)
  | inl p2 =>
    have hle2 := (kc_X4_takePattern l D cA E sz ad _ hj oq sgq sgv hE n p1.2 b0 (0 : Int32) p2 e_q2).1
    have hM10003 : p.2.1 ≤ p2.2.2.1 ∧ p.2.2 ≤ p2.2.2.2 := hM3
    have h := cd_inl h
    refine hp_callVv (As := [.int 0]) (rest := []) cx hw ((kc_X4_takePattern l D cA E _ ad _ hj oq sgq sgv hE n p1.2 b0 (0 : Int32) p2 e_q2).2) (cwV 1 cx.2.2.2.2.2.1 (cd_giV cm_697 cm_698 cm_699 cm_663 cm_700) rfl rfl rfl hdc_X4_takePattern ⟨Nat.le_of_ble_eq_true rfl, Nat.le_of_ble_eq_true rfl⟩) (cd_atO hj (by decide) (by decide)) rfl rfl hl.1 rfl (Nat.le_of_ble_eq_true rfl) dX4_readGrant_9 ⟨by (try dsimp only); omega, by (try dsimp only); omega⟩ (fun u H locs hp hw => ?_)
    obtain ⟨ca, hj, rfl⟩ := hp
    refine W.widen (k := b0.1 - p2.2.2.1) (n := b0.2 - p2.2.2.2) (by omega) (by omega) ?_
    refine lv_aload_n cx.1 cx.2.1 dX4_readGrant_12 rfl (lv_at hl 0 rfl) ?_
    refine cd_gO (o2 := 3) (e2 := 0) (o := 4) (k := 2) (f := 130) hj cx hw hic4 rfl ⟨by decide, rfl, by decide, rfl⟩ rfl (by decide) ⟨rfl, rfl⟩ (List.mem_cons_of_mem _ cm_701) dX4_readGrant_13 ?_
    refine lv_aload_n cx.1 cx.2.1 dX4_readGrant_16 rfl (lv_at hl 0 rfl) ?_
    refine cd_gO (o2 := 5) (e2 := 193) (o := 4) (k := 3) (f := 131) hj cx hw hic4 rfl ⟨by decide, rfl, by decide, rfl⟩ rfl (by decide) ⟨rfl, rfl⟩ (List.mem_cons_of_mem _ cm_682) dX4_readGrant_17 ?_
    obtain ⟨p4, e_p4, h⟩ := md_ob h
    refine hp_callVv (As := [.ref (ad 5 193)]) (rest := []) cx hw (kc_X3_addGrant l D cA E _ ad _ hj oq sgq sgv hE n p2.2.1 193 (by decide) p4 e_p4) (cwV 1 cx.2.2.2.2.2.1 (cd_giV cm_710 cm_711 cm_712 cm_332 cm_713) rfl rfl rfl hdc_X3_addGrant ⟨Nat.le_of_ble_eq_true rfl, Nat.le_of_ble_eq_true rfl⟩) (cd_atO hj (by decide) (by decide)) rfl rfl hl.1 rfl (Nat.le_of_ble_eq_true rfl) dX4_readGrant_20 ⟨by (try dsimp only); omega, by (try dsimp only); omega⟩ (fun u H locs hp hw => ?_)
    obtain ⟨ca, hj, rfl⟩ := hp
    refine lv_aload_n cx.1 cx.2.1 dX4_readGrant_23 rfl (lv_at hl 0 rfl) ?_
    refine lv_bipush (v := 123) cx.1 cx.2.1 dX4_readGrant_24 (by decide) ?_
    obtain ⟨q5, e_q5, h⟩ := md_ob h
    obtain ⟨hm6, hn6, h⟩ := cd_cks h
    have hM6 : p.2.1 ≤ (Sum.elim (fun (p : Int32 × cd_S × cd_B) => p.2.2) (fun (t : cd_S × cd_B) => t.2) q5).1 ∧ p.2.2 ≤ (Sum.elim (fun (p : Int32 × cd_S × cd_B) => p.2.2) (fun (t : cd_S × cd_B) => t.2) q5).2 := ⟨hm6, hn6⟩
    cases q5 with
    | inr t5 =>
      obtain rfl : t5 = p := Sum.inr.inj (Option.some.inj h)
      have hlx5 := (kx_X4_pass l D cA E sz ad _ hj oq sgq sgv hE hX n p4.2 (p2.2.2) (123 : Int32) t5 e_q5).1
      exact hp_callQv (As := [.int 123]) (rest := []) cx hw hno ((kx_X4_pass l D cA E _ ad _ hj oq sgq sgv hE hX n p4.2 (p2.2.2) (123 : Int32) t5 e_q5).2) (cwV 1 cx.2.2.2.2.2.1 (cd_giV cm_714 cm_715 cm_716 cm_663 cm_717) rfl rfl rfl hdc_X4_pass ⟨Nat.le_of_ble_eq_true rfl, Nat.le_of_ble_eq_true rfl⟩) (cd_atO hj (by decide) (by decide)) rfl rfl hl.1 rfl (Nat.le_of_ble_eq_true rfl) dX4_readGrant_26 ⟨by (try dsimp only); omega, by (try dsimp only); omega⟩ (by omega) (by omega)
    | inl p5 =>
      have hle5 := (kc_X4_pass l D cA E sz ad _ hj oq sgq sgv hE n p4.2 (p2.2.2) (123 : Int32) p5 e_q5).1
      have hM10006 : p.2.1 ≤ p5.2.2.1 ∧ p.2.2 ≤ p5.2.2.2 := hM6
      have h := cd_inl h
      refine hp_callVv (As := [.int 123]) (rest := []) cx hw ((kc_X4_pass l D cA E _ ad _ hj oq sgq sgv hE n p4.2 (p2.2.2) (123 : Int32) p5 e_q5).2) (cwV 1 cx.2.2.2.2.2.1 (cd_giV cm_714 cm_715 cm_716 cm_663 cm_717) rfl rfl rfl hdc_X4_pass ⟨Nat.le_of_ble_eq_true rfl, Nat.le_of_ble_eq_true rfl⟩) (cd_atO hj (by decide) (by decide)) rfl rfl hl.1 rfl (Nat.le_of_ble_eq_true rfl) dX4_readGrant_26 ⟨by (try dsimp only); omega, by (try dsimp only); omega⟩ (fun u H locs hp hw => ?_)
      obtain ⟨ca, hj, rfl⟩ := hp
      refine W.widen (k := b0.1 - p5.2.2.1) (n := b0.2 - p5.2.2.2) (by omega) (by omega) ?_
      refine lv_iconst (v := 0) cx.1 cx.2.1 dX4_readGrant_29 (by decide) ?_
      refine lv_istore_n (lv' := [(1, .int 0), (0, .ref (ad 4 0))]) cx.1 cx.2.1 dX4_readGrant_30 rfl hl (by decide) rfl (fun ls hl => ?_)
      have L31 : ∀ (j : Nat) (ca : Nat → Nat) (hj : cd_inj ad ca) (σ : cd_S) (b : cd_B) (l1 : Int32) (q : (((Int32 × cd_S × cd_B) ⊕ (cd_S × cd_B)) ⊕ (cd_S × cd_B × Int32))) (H : Heap) (locs : List Loc) (ls : Array Slot), b.1 ≤ b0.1 → b.2 ≤ b0.2 → p.2.1 ≤ b.1 → p.2.2 ≤ b.2 → p.2.1 ≤ (Sum.elim (fun (q : ((Int32 × cd_S × cd_B) ⊕ (cd_S × cd_B))) => Sum.elim (fun (p : (Int32 × cd_S × cd_B)) => p.2.2) (fun (t : cd_S × cd_B) => t.2) q) (fun (q : cd_S × cd_B × Int32) => q.2.1) q).1 → p.2.2 ≤ (Sum.elim (fun (q : ((Int32 × cd_S × cd_B) ⊕ (cd_S × cd_B))) => Sum.elim (fun (p : (Int32 × cd_S × cd_B)) => p.2.2) (fun (t : cd_S × cd_B) => t.2) q) (fun (q : cd_S × cd_B × Int32) => q.2.1) q).2 → f_X4_readGrant_L31 n j σ b l1 = some q → hp_w D vwCl (hp_Tl cA) E (hp_A (cd_pic cA ad ca0 σ0) sz) ss H locs (cd_pic cA ad ca σ) → lv_has ls 2 [(0, .ref (ad 4 0)), (1, .int l1)] → (∀ t, q = Sum.inr t → (∀ (ca : Nat → Nat) (hj : cd_inj ad ca) (H : Heap) (locs : List Loc) (ls : Array Slot), t.2.1.1 ≤ b0.1 → t.2.1.2 ≤ b0.2 → hp_w D vwCl (hp_Tl cA) E (hp_A (cd_pic cA ad ca0 σ0) sz) ss H locs (cd_pic cA ad ca t.1) → lv_has ls 2 [(0, .ref (ad 4 0))] → W pp l ee ({ frames := 16, cells := b0.1 - p.2.1, slots := b0.2 - p.2.2, locals := 286 }) ss mm [.ref (ad 4 0)].toArray bb mt cd H locs (b0.1 - t.2.1.1) (b0.2 - t.2.1.2) (vx_MQ bb (hp_Qv D vwCl (hp_Tl cA) sz (cd_pic cA ad ca0 σ0) (fun _ => False)) (hp_XQ D vwCl (hp_Tl cA) "java/lang/IllegalArgumentException" (cd_pic cA ad ca0 σ0) sz (fun u => ∃ ca1, cd_inj ad ca1 ∧ u = cd_pic cA ad ca1 p.1)) [.ref (ad 4 0)].toArray ss (b0.1 - p.2.1) (b0.2 - p.2.2) (hp_A (cd_pic cA ad ca0 σ0) sz)) (F0 mm 66 ls []))) → (∀ r, q = Sum.inl r → r = Sum.inr p) → W pp l ee ({ frames := 16, cells := b0.1 - p.2.1, slots := b0.2 - p.2.2, locals := 286 }) ss mm [.ref (ad 4 0)].toArray bb mt cd H locs (b0.1 - b.1) (b0.2 - b.2) (vx_MQ bb (hp_Qv D vwCl (hp_Tl cA) sz (cd_pic cA ad ca0 σ0) (fun _ => False)) (hp_XQ D vwCl (hp_Tl cA) "java/lang/IllegalArgumentException" (cd_pic cA ad ca0 σ0) sz (fun u => ∃ ca1, cd_inj ad ca1 ∧ u = cd_pic cA ad ca1 p.1)) [.ref (ad 4 0)].toArray ss (b0.1 - p.2.1) (b0.2 - p.2.2) (hp_A (cd_pic cA ad ca0 σ0) sz)) (F0 mm 31 ls []) := by
        intro j
        induction j with
        | zero => intro ca hj σ b l1 q H locs ls hb1 hb2 hf1 hf2 hq1 hq2 h; exact nomatch h
        | succ j ih =>
          intro ca hj σ b l1 q H locs ls hb1 hb2 hf1 hf2 hq1 hq2 h hw hl K KR
          unfold f_X4_readGrant_L31 at h
          refine lv_iload_n cx.1 cx.2.1 dX4_readGrant_31 rfl (lv_at hl 1 rfl) ?_
          refine lv_bipush (v := 8) cx.1 cx.2.1 dX4_readGrant_32 (by decide) ?_
          refine lv_icmp_gt (tgt := 66) cx.1 cx.2.1 dX4_readGrant_34 (by decide) (fun c34 => ?_) (fun c34 => ?_)
          · have h := md_ip c34 h
            exact K _ (Option.some.inj h).symm _ hj _ _ _ (by (try dsimp only); omega) (by (try dsimp only); omega) hw (lv_sub hl [0] rfl)
          · have h := md_in c34 h
            refine lv_aload_n cx.1 cx.2.1 dX4_readGrant_37 rfl (lv_at hl 0 rfl) ?_
            refine cd_gO (o2 := 10) (e2 := 0) (o := 4) (k := 0) (f := 128) hj cx hw hic4 rfl ⟨by decide, rfl, by decide, rfl⟩ rfl (by decide) ⟨rfl, rfl⟩ (List.mem_cons_of_mem _ cm_658) dX4_readGrant_38 ?_
            refine cd_gI (o := 10) (k := 8) (f := 328) hj cx hw hic10 rfl ⟨by decide, rfl, by decide, rfl⟩ rfl (by decide) (List.mem_cons_of_mem _ cm_665) dX4_readGrant_41 ?_
            refine lv_iconst (v := 2) cx.1 cx.2.1 dX4_readGrant_44 (by decide) ?_
            refine lv_icmp_ne (tgt := 66) cx.1 cx.2.1 dX4_readGrant_45 (by decide) (fun c45 => ?_) (fun c45 => ?_)
            · have h := md_in c45 h
              exact K _ (Option.some.inj h).symm _ hj _ _ _ (by (try dsimp only); omega) (by (try dsimp only); omega) hw (lv_sub hl [0] rfl)
            · have h := md_ip c45 h
              refine lv_aload_n cx.1 cx.2.1 dX4_readGrant_48 rfl (lv_at hl 0 rfl) ?_
              refine lv_iload_n cx.1 cx.2.1 dX4_readGrant_49 rfl (lv_at hl 1 rfl) ?_
              refine lv_iconst (v := 0) cx.1 cx.2.1 dX4_readGrant_50 (by decide) ?_
              obtain ⟨q7, e_q7, h⟩ := md_ob h
              obtain ⟨hm8, hn8, h⟩ := cd_cks h
              have hM8 : p.2.1 ≤ (Sum.elim (fun (p : Int32 × cd_S × cd_B) => p.2.2) (fun (t : cd_S × cd_B) => t.2) q7).1 ∧ p.2.2 ≤ (Sum.elim (fun (p : Int32 × cd_S × cd_B) => p.2.2) (fun (t : cd_S × cd_B) => t.2) q7).2 := ⟨Nat.le_trans hq1 hm8, Nat.le_trans hq2 hn8⟩
              cases q7 with
              | inr t7 =>
                obtain rfl : t7 = p := Sum.inr.inj (KR _ (Option.some.inj h).symm)
                have hlx7 := (kx_X4_readRight l D cA E sz ad _ hj oq sgq sgv hE hX n σ b l1 (0 : Int32) t7 e_q7).1
                exact hp_callQv (As := [.int l1, .int 0]) (rest := []) cx hw hno ((kx_X4_readRight l D cA E _ ad _ hj oq sgq sgv hE hX n σ b l1 (0 : Int32) t7 e_q7).2) (cwV 2 cx.2.2.2.2.2.1 (cd_giV cm_718 cm_719 cm_720 cm_663 cm_721) rfl rfl rfl hdc_X4_readRight ⟨Nat.le_of_ble_eq_true rfl, Nat.le_of_ble_eq_true rfl⟩) (cd_atO hj (by decide) (by decide)) rfl rfl hl.1 rfl (Nat.le_of_ble_eq_true rfl) dX4_readGrant_51 ⟨by (try dsimp only); omega, by (try dsimp only); omega⟩ (by omega) (by omega)
              | inl p7 =>
                have hle7 := (kc_X4_readRight l D cA E sz ad _ hj oq sgq sgv hE n σ b l1 (0 : Int32) p7 e_q7).1
                have hM10008 : p.2.1 ≤ p7.2.2.1 ∧ p.2.2 ≤ p7.2.2.2 := hM8
                have h := cd_inl h
                refine hp_callVv (As := [.int l1, .int 0]) (rest := []) cx hw ((kc_X4_readRight l D cA E _ ad _ hj oq sgq sgv hE n σ b l1 (0 : Int32) p7 e_q7).2) (cwV 2 cx.2.2.2.2.2.1 (cd_giV cm_718 cm_719 cm_720 cm_663 cm_721) rfl rfl rfl hdc_X4_readRight ⟨Nat.le_of_ble_eq_true rfl, Nat.le_of_ble_eq_true rfl⟩) (cd_atO hj (by decide) (by decide)) rfl rfl hl.1 rfl (Nat.le_of_ble_eq_true rfl) dX4_readGrant_51 ⟨by (try dsimp only); omega, by (try dsimp only); omega⟩ (fun u H locs hp hw => ?_)
                obtain ⟨ca, hj, rfl⟩ := hp
                refine W.widen (k := b0.1 - p7.2.2.1) (n := b0.2 - p7.2.2.2) (by omega) (by omega) ?_
                refine lv_aload_n cx.1 cx.2.1 dX4_readGrant_54 rfl (lv_at hl 0 rfl) ?_
                refine lv_bipush (v := 59) cx.1 cx.2.1 dX4_readGrant_55 (by decide) ?_
                obtain ⟨q9, e_q9, h⟩ := md_ob h
                obtain ⟨hm10, hn10, h⟩ := cd_cks h
                have hM10 : p.2.1 ≤ (Sum.elim (fun (p : Int32 × cd_S × cd_B) => p.2.2) (fun (t : cd_S × cd_B) => t.2) q9).1 ∧ p.2.2 ≤ (Sum.elim (fun (p : Int32 × cd_S × cd_B) => p.2.2) (fun (t : cd_S × cd_B) => t.2) q9).2 := ⟨Nat.le_trans hq1 hm10, Nat.le_trans hq2 hn10⟩
                cases q9 with
                | inr t9 =>
                  obtain rfl : t9 = p := Sum.inr.inj (KR _ (Option.some.inj h).symm)
                  have hlx9 := (kx_X4_pass l D cA E sz ad _ hj oq sgq sgv hE hX n p7.2.1 (p7.2.2) (59 : Int32) t9 e_q9).1
                  exact hp_callQv (As := [.int 59]) (rest := []) cx hw hno ((kx_X4_pass l D cA E _ ad _ hj oq sgq sgv hE hX n p7.2.1 (p7.2.2) (59 : Int32) t9 e_q9).2) (cwV 1 cx.2.2.2.2.2.1 (cd_giV cm_714 cm_715 cm_716 cm_663 cm_717) rfl rfl rfl hdc_X4_pass ⟨Nat.le_of_ble_eq_true rfl, Nat.le_of_ble_eq_true rfl⟩) (cd_atO hj (by decide) (by decide)) rfl rfl hl.1 rfl (Nat.le_of_ble_eq_true rfl) dX4_readGrant_57 ⟨by (try dsimp only); omega, by (try dsimp only); omega⟩ (by omega) (by omega)
                | inl p9 =>
                  have hle9 := (kc_X4_pass l D cA E sz ad _ hj oq sgq sgv hE n p7.2.1 (p7.2.2) (59 : Int32) p9 e_q9).1
                  have hM10010 : p.2.1 ≤ p9.2.2.1 ∧ p.2.2 ≤ p9.2.2.2 := hM10
                  have h := cd_inl h
                  refine hp_callVv (As := [.int 59]) (rest := []) cx hw ((kc_X4_pass l D cA E _ ad _ hj oq sgq sgv hE n p7.2.1 (p7.2.2) (59 : Int32) p9 e_q9).2) (cwV 1 cx.2.2.2.2.2.1 (cd_giV cm_714 cm_715 cm_716 cm_663 cm_717) rfl rfl rfl hdc_X4_pass ⟨Nat.le_of_ble_eq_true rfl, Nat.le_of_ble_eq_true rfl⟩) (cd_atO hj (by decide) (by decide)) rfl rfl hl.1 rfl (Nat.le_of_ble_eq_true rfl) dX4_readGrant_57 ⟨by (try dsimp only); omega, by (try dsimp only); omega⟩ (fun u H locs hp hw => ?_)
                  obtain ⟨ca, hj, rfl⟩ := hp
                  refine W.widen (k := b0.1 - p9.2.2.1) (n := b0.2 - p9.2.2.2) (by omega) (by omega) ?_
                  refine lv_iinc (v := (l1 + 1)) (lv' := [(1, .int (l1 + 1)), (0, .ref (ad 4 0))]) cx.1 cx.2.1 dX4_readGrant_60 hl (k := 1) rfl rfl (by decide) rfl (fun ls hl => ?_)
                  refine lv_goto (tgt := 31) cx.1 cx.2.1 dX4_readGrant_63 (by decide) ?_
                  exact ih _ hj p9.2.1 (p9.2.2) ((l1 + 1)) q _ _ _ (by omega) (by omega) (by omega) (by omega) hq1 hq2 h hw (lv_sub hl [1, 0] rfl) K KR
      obtain ⟨q11, e_q11, h⟩ := md_ob h
      obtain ⟨hm12, hn12, h⟩ := cd_cks h
      have hM12 : p.2.1 ≤ (Sum.elim (fun (q : ((Int32 × cd_S × cd_B) ⊕ (cd_S × cd_B))) => Sum.elim (fun (p : (Int32 × cd_S × cd_B)) => p.2.2) (fun (t : cd_S × cd_B) => t.2) q) (fun (q : cd_S × cd_B × Int32) => q.2.1) q11).1 ∧ p.2.2 ≤ (Sum.elim (fun (q : ((Int32 × cd_S × cd_B) ⊕ (cd_S × cd_B))) => Sum.elim (fun (p : (Int32 × cd_S × cd_B)) => p.2.2) (fun (t : cd_S × cd_B) => t.2) q) (fun (q : cd_S × cd_B × Int32) => q.2.1) q11).2 := ⟨hm12, hn12⟩
      refine L31 n _ hj p5.2.1 (p5.2.2) 0 q11 _ _ _ (by omega) (by omega) (by omega) (by omega) hM12.1 hM12.2 e_q11 hw (lv_sub hl [1, 0] rfl) (fun t11 hq11 ca hj H locs ls hb1 hb2 hw hl => ?_) (fun r hr => by subst hr; exact Option.some.inj h)
      subst hq11
      have h := md_inr h
      have hS12 : p.2.1 ≤ t11.2.1.1 ∧ p.2.2 ≤ t11.2.1.2 := hM12
      refine lv_aload_n cx.1 cx.2.1 dX4_readGrant_66 rfl (lv_at hl 0 rfl) ?_
      refine lv_bipush (v := 125) cx.1 cx.2.1 dX4_readGrant_67 (by decide) ?_
      obtain ⟨q13, e_q13, h⟩ := md_ob h
      obtain ⟨hm14, hn14, h⟩ := cd_cks h
      have hM14 : p.2.1 ≤ (Sum.elim (fun (p : Int32 × cd_S × cd_B) => p.2.2) (fun (t : cd_S × cd_B) => t.2) q13).1 ∧ p.2.2 ≤ (Sum.elim (fun (p : Int32 × cd_S × cd_B) => p.2.2) (fun (t : cd_S × cd_B) => t.2) q13).2 := ⟨hm14, hn14⟩
      cases q13 with
      | inr t13 =>
        obtain rfl : t13 = p := Sum.inr.inj (Option.some.inj h)
        have hlx13 := (kx_X4_pass l D cA E sz ad _ hj oq sgq sgv hE hX n t11.1 (t11.2.1) (125 : Int32) t13 e_q13).1
        exact hp_callQv (As := [.int 125]) (rest := []) cx hw hno ((kx_X4_pass l D cA E _ ad _ hj oq sgq sgv hE hX n t11.1 (t11.2.1) (125 : Int32) t13 e_q13).2) (cwV 1 cx.2.2.2.2.2.1 (cd_giV cm_714 cm_715 cm_716 cm_663 cm_717) rfl rfl rfl hdc_X4_pass ⟨Nat.le_of_ble_eq_true rfl, Nat.le_of_ble_eq_true rfl⟩) (cd_atO hj (by decide) (by decide)) rfl rfl hl.1 rfl (Nat.le_of_ble_eq_true rfl) dX4_readGrant_69 ⟨by (try dsimp only); omega, by (try dsimp only); omega⟩ (by omega) (by omega)
      | inl p13 =>
        have hle13 := (kc_X4_pass l D cA E sz ad _ hj oq sgq sgv hE n t11.1 (t11.2.1) (125 : Int32) p13 e_q13).1
        have hM10014 : p.2.1 ≤ p13.2.2.1 ∧ p.2.2 ≤ p13.2.2.2 := hM14
        have h := cd_inl h
        refine hp_callVv (As := [.int 125]) (rest := []) cx hw ((kc_X4_pass l D cA E _ ad _ hj oq sgq sgv hE n t11.1 (t11.2.1) (125 : Int32) p13 e_q13).2) (cwV 1 cx.2.2.2.2.2.1 (cd_giV cm_714 cm_715 cm_716 cm_663 cm_717) rfl rfl rfl hdc_X4_pass ⟨Nat.le_of_ble_eq_true rfl, Nat.le_of_ble_eq_true rfl⟩) (cd_atO hj (by decide) (by decide)) rfl rfl hl.1 rfl (Nat.le_of_ble_eq_true rfl) dX4_readGrant_69 ⟨by (try dsimp only); omega, by (try dsimp only); omega⟩ (fun u H locs hp hw => ?_)
        obtain ⟨ca, hj, rfl⟩ := hp
        refine W.widen (k := b0.1 - p13.2.2.1) (n := b0.2 - p13.2.2.2) (by omega) (by omega) ?_
        exact nomatch Option.some.inj h
set_option maxHeartbeats 4000000 in
set_option maxRecDepth 100000 in
theorem kx_X4_readGrants (l : Launch) (D : va_G) (cA : Nat → ClassId) (E : hp_N) (sz : Nat) (ad : Nat → Nat → Nat) (ca0 : Nat → Nat) (hj : cd_inj ad ca0) (oq sgq sgv : Nat) (hE : cd_E E oq sgq sgv) (hX : cd_X l E) (n : Nat) (σ0 : cd_S) (b0 : cd_B) (p : (cd_S × cd_B)) (h : f_X4_readGrants n σ0 b0 = some (Sum.inr p)) : (p.2.1 ≤ b0.1 ∧ p.2.2 ≤ b0.2) ∧ vx_Met l yX4_readGrants (Cond.code yX4_readGrants cX4_readGrants 2 none :: v_CLS) ({ frames := 17, cells := b0.1 - p.2.1, slots := b0.2 - p.2.2, locals := 307 }) (hp_Pc D vwCl (hp_Tl cA) E sz (cd_pic cA ad ca0 σ0) [.ref (ad 4 0)]) (hp_Qv D vwCl (hp_Tl cA) sz (cd_pic cA ad ca0 σ0) (fun _ => False)) (hp_XQ D vwCl (hp_Tl cA) "java/lang/IllegalArgumentException" (cd_pic cA ad ca0 σ0) sz (fun u => ∃ ca1, cd_inj ad ca1 ∧ u = cd_pic cA ad ca1 p.1)) (b0.1 - p.2.1) (b0.2 - p.2.2) (hp_A (cd_pic cA ad ca0 σ0) sz) := by
  obtain ⟨hm0, hn0, h⟩ := cd_cks h
  have hM0 : p.2.1 ≤ b0.1 ∧ p.2.2 ≤ b0.2 := ⟨hm0, hn0⟩
  refine ⟨hM0, ?_⟩
  refine hp_ofWx (cc := cX4_readGrants) (maxL := 2) (ret := none) (by decide) rfl (Nat.le_of_ble_eq_true rfl) ?_
  intro pp ee ss mm bb mt cd ls cx hsz hw hl hno
  have hl : lv_has ls 2 [(0, .ref (ad 4 0))] := hl
  refine W.widen (k := b0.1 - b0.1) (n := b0.2 - b0.2) (Nat.zero_le _) (Nat.zero_le _) ?_
  refine lv_aload_n cx.1 cx.2.1 dX4_readGrants_0 rfl (lv_at hl 0 rfl) ?_
  refine cd_gO (o2 := 2) (e2 := 0) (o := 4) (k := 1) (f := 129) hj cx hw hic4 rfl ⟨by decide, rfl, by decide, rfl⟩ rfl (by decide) ⟨rfl, rfl⟩ (List.mem_cons_of_mem _ cm_722) dX4_readGrants_1 ?_
  obtain ⟨p1, e_p1, h⟩ := md_ob h
  refine hp_callVv (As := []) (rest := []) cx hw (kc_X2_clear l D cA E _ ad _ hj oq sgq sgv hE n σ0  p1 e_p1) (cwV 0 cx.2.2.2.2.2.1 (cd_giV cm_723 cm_724 cm_725 cm_167 cm_726) rfl rfl rfl hdc_X2_clear ⟨Nat.le_of_ble_eq_true rfl, Nat.le_of_ble_eq_true rfl⟩) (cd_atO hj (by decide) (by decide)) rfl rfl hl.1 rfl (Nat.le_of_ble_eq_true rfl) dX4_readGrants_4 ⟨by (try dsimp only); omega, by (try dsimp only); omega⟩ (fun u H locs hp hw => ?_)
  obtain ⟨ca, hj, rfl⟩ := hp
  refine lv_aload_n cx.1 cx.2.1 dX4_readGrants_7 rfl (lv_at hl 0 rfl) ?_
  refine lv_iconst (v := 0) cx.1 cx.2.1 dX4_readGrants_8 (by decide) ?_
  obtain ⟨σ2, e_σ2, h⟩ := md_ob h
  refine cd_pI (o := 4) (k := 10) (f := 138) hj cx hw hic4 rfl ⟨by decide, rfl, by decide, rfl⟩ tyX4_ok nmX4 rfl (by decide) rfl (List.mem_cons_of_mem _ cm_727) rfl e_σ2 dX4_readGrants_9 (fun H locs hw => ?_)
  refine lv_aload_n cx.1 cx.2.1 dX4_readGrants_12 rfl (lv_at hl 0 rfl) ?_
  refine lv_iconst (v := 0) cx.1 cx.2.1 dX4_readGrants_13 (by decide) ?_
  obtain ⟨σ3, e_σ3, h⟩ := md_ob h
  refine cd_pI (o := 4) (k := 6) (f := 134) hj cx hw hic4 rfl ⟨by decide, rfl, by decide, rfl⟩ tyX4_ok nmX4 rfl (by decide) rfl (List.mem_cons_of_mem _ cm_728) rfl e_σ3 dX4_readGrants_14 (fun H locs hw => ?_)
  refine lv_aload_n cx.1 cx.2.1 dX4_readGrants_17 rfl (lv_at hl 0 rfl) ?_
  refine lv_iconst (v := 0) cx.1 cx.2.1 dX4_readGrants_18 (by decide) ?_
  obtain ⟨σ4, e_σ4, h⟩ := md_ob h
  refine cd_pI (o := 4) (k := 11) (f := 139) hj cx hw hic4 rfl ⟨by decide, rfl, by decide, rfl⟩ tyX4_ok nmX4 rfl (by decide) rfl (List.mem_cons_of_mem _ cm_656) rfl e_σ4 dX4_readGrants_19 (fun H locs hw => ?_)
  refine lv_aload_n cx.1 cx.2.1 dX4_readGrants_22 rfl (lv_at hl 0 rfl) ?_
  refine lv_iconst (v := (-1)) cx.1 cx.2.1 dX4_readGrants_23 (by decide) ?_
  obtain ⟨σ5, e_σ5, h⟩ := md_ob h
  refine cd_pI (o := 4) (k := 12) (f := 140) hj cx hw hic4 rfl ⟨by decide, rfl, by decide, rfl⟩ tyX4_ok nmX4 rfl (by decide) rfl (List.mem_cons_of_mem _ cm_657) rfl e_σ5 dX4_readGrants_24 (fun H locs hw => ?_)
  refine lv_iconst (v := 0) cx.1 cx.2.1 dX4_readGrants_27 (by decide) ?_
  refine lv_istore_n (lv' := [(1, .int 0), (0, .ref (ad 4 0))]) cx.1 cx.2.1 dX4_readGrants_28 rfl hl (by decide) rfl (fun ls hl => ?_)
  have L29 : ∀ (j : Nat) (ca : Nat → Nat) (hj : cd_inj ad ca) (σ : cd_S) (b : cd_B) (l1 : Int32) (q : (((Int32 × cd_S × cd_B) ⊕ (cd_S × cd_B)) ⊕ (cd_S × cd_B × Int32))) (H : Heap) (locs : List Loc) (ls : Array Slot), b.1 ≤ b0.1 → b.2 ≤ b0.2 → p.2.1 ≤ b.1 → p.2.2 ≤ b.2 → p.2.1 ≤ (Sum.elim (fun (q : ((Int32 × cd_S × cd_B) ⊕ (cd_S × cd_B))) => Sum.elim (fun (p : (Int32 × cd_S × cd_B)) => p.2.2) (fun (t : cd_S × cd_B) => t.2) q) (fun (q : cd_S × cd_B × Int32) => q.2.1) q).1 → p.2.2 ≤ (Sum.elim (fun (q : ((Int32 × cd_S × cd_B) ⊕ (cd_S × cd_B))) => Sum.elim (fun (p : (Int32 × cd_S × cd_B)) => p.2.2) (fun (t : cd_S × cd_B) => t.2) q) (fun (q : cd_S × cd_B × Int32) => q.2.1) q).2 → f_X4_readGrants_L29 n j σ b l1 = some q → hp_w D vwCl (hp_Tl cA) E (hp_A (cd_pic cA ad ca0 σ0) sz) ss H locs (cd_pic cA ad ca σ) → lv_has ls 2 [(0, .ref (ad 4 0)), (1, .int l1)] → (∀ t, q = Sum.inr t → (∀ (ca : Nat → Nat) (hj : cd_inj ad ca) (H : Heap) (locs : List Loc) (ls : Array Slot), t.2.1.1 ≤ b0.1 → t.2.1.2 ≤ b0.2 → hp_w D vwCl (hp_Tl cA) E (hp_A (cd_pic cA ad ca0 σ0) sz) ss H locs (cd_pic cA ad ca t.1) → lv_has ls 2 [] → W pp l ee ({ frames := 17, cells := b0.1 - p.2.1, slots := b0.2 - p.2.2, locals := 307 }) ss mm [.ref (ad 4 0)].toArray bb mt cd H locs (b0.1 - t.2.1.1) (b0.2 - t.2.1.2) (vx_MQ bb (hp_Qv D vwCl (hp_Tl cA) sz (cd_pic cA ad ca0 σ0) (fun _ => False)) (hp_XQ D vwCl (hp_Tl cA) "java/lang/IllegalArgumentException" (cd_pic cA ad ca0 σ0) sz (fun u => ∃ ca1, cd_inj ad ca1 ∧ u = cd_pic cA ad ca1 p.1)) [.ref (ad 4 0)].toArray ss (b0.1 - p.2.1) (b0.2 - p.2.2) (hp_A (cd_pic cA ad ca0 σ0) sz)) (F0 mm 73 ls []))) → (∀ r, q = Sum.inl r → r = Sum.inr p) → W pp l ee ({ frames := 17, cells := b0.1 - p.2.1, slots := b0.2 - p.2.2, locals := 307 }) ss mm [.ref (ad 4 0)].toArray bb mt cd H locs (b0.1 - b.1) (b0.2 - b.2) (vx_MQ bb (hp_Qv D vwCl (hp_Tl cA) sz (cd_pic cA ad ca0 σ0) (fun _ => False)) (hp_XQ D vwCl (hp_Tl cA) "java/lang/IllegalArgumentException" (cd_pic cA ad ca0 σ0) sz (fun u => ∃ ca1, cd_inj ad ca1 ∧ u = cd_pic cA ad ca1 p.1)) [.ref (ad 4 0)].toArray ss (b0.1 - p.2.1) (b0.2 - p.2.2) (hp_A (cd_pic cA ad ca0 σ0) sz)) (F0 mm 29 ls []) := by
    intro j
    induction j with
    | zero => intro ca hj σ b l1 q H locs ls hb1 hb2 hf1 hf2 hq1 hq2 h; exact nomatch h
    | succ j ih =>
      intro ca hj σ b l1 q H locs ls hb1 hb2 hf1 hf2 hq1 hq2 h hw hl K KR
      unfold f_X4_readGrants_L29 at h
      have J60 : ∀ (ca : Nat → Nat) (hj : cd_inj ad ca) (σ : cd_S) (b : cd_B) (l1 : Int32) (t0 : Int32) (H : Heap) (locs : List Loc) (ls : Array Slot), b.1 ≤ b0.1 → b.2 ≤ b0.2 → p.2.1 ≤ b.1 → p.2.2 ≤ b.2 → f_X4_readGrants_J60 n (f_X4_readGrants_L29 n j) σ b l1 t0 = some q → hp_w D vwCl (hp_Tl cA) E (hp_A (cd_pic cA ad ca0 σ0) sz) ss H locs (cd_pic cA ad ca σ) → lv_has ls 2 [(0, .ref (ad 4 0)), (1, .int l1)] → W pp l ee ({ frames := 17, cells := b0.1 - p.2.1, slots := b0.2 - p.2.2, locals := 307 }) ss mm [.ref (ad 4 0)].toArray bb mt cd H locs (b0.1 - b.1) (b0.2 - b.2) (vx_MQ bb (hp_Qv D vwCl (hp_Tl cA) sz (cd_pic cA ad ca0 σ0) (fun _ => False)) (hp_XQ D vwCl (hp_Tl cA) "java/lang/IllegalArgumentException" (cd_pic cA ad ca0 σ0) sz (fun u => ∃ ca1, cd_inj ad ca1 ∧ u = cd_pic cA ad ca1 p.1)) [.ref (ad 4 0)].toArray ss (b0.1 - p.2.1) (b0.2 - p.2.2) (hp_A (cd_pic cA ad ca0 σ0) sz)) (F0 mm 60 ls [.int t0, .ref (ad 4 0)]) := by
        intro ca hj σ b l1 t0 H locs ls hb1 hb2 hf1 hf2 h hw hl
        obtain ⟨q6, e_q6, h⟩ := md_ob h
        obtain ⟨hm7, hn7, h⟩ := cd_cks h
        have hM7 : p.2.1 ≤ (Sum.elim (fun (p : Int32 × cd_S × cd_B) => p.2.2) (fun (t : cd_S × cd_B) => t.2) q6).1 ∧ p.2.2 ≤ (Sum.elim (fun (p : Int32 × cd_S × cd_B) => p.2.2) (fun (t : cd_S × cd_B) => t.2) q6).2 := ⟨Nat.le_trans hq1 hm7, Nat.le_trans hq2 hn7⟩
        cases q6 with
        | inr t6 =>
          obtain rfl : t6 = p := Sum.inr.inj (KR _ (Option.some.inj h).symm)
          have hlx6 := (kx_X4_room l D cA E sz ad _ hj oq sgq sgv hE hX n σ b t0 t6 e_q6).1
          exact hp_callQv (As := [.int t0]) (rest := []) cx hw hno ((kx_X4_room l D cA E _ ad _ hj oq sgq sgv hE hX n σ b t0 t6 e_q6).2) (cwV 1 cx.2.2.2.2.2.1 (cd_giV cm_691 cm_692 cm_693 cm_663 cm_694) rfl rfl rfl hdc_X4_room ⟨Nat.le_of_ble_eq_true rfl, Nat.le_of_ble_eq_true rfl⟩) (cd_atO hj (by decide) (by decide)) rfl rfl hl.1 rfl (Nat.le_of_ble_eq_true rfl) dX4_readGrants_60 ⟨by (try dsimp only); omega, by (try dsimp only); omega⟩ (by omega) (by omega)
        | inl p6 =>
          have hle6 := (kc_X4_room l D cA E sz ad _ hj oq sgq sgv hE n σ b t0 p6 e_q6).1
          have hM10007 : p.2.1 ≤ p6.2.2.1 ∧ p.2.2 ≤ p6.2.2.2 := hM7
          have h := cd_inl h
          refine hp_callVv (As := [.int t0]) (rest := []) cx hw ((kc_X4_room l D cA E _ ad _ hj oq sgq sgv hE n σ b t0 p6 e_q6).2) (cwV 1 cx.2.2.2.2.2.1 (cd_giV cm_691 cm_692 cm_693 cm_663 cm_694) rfl rfl rfl hdc_X4_room ⟨Nat.le_of_ble_eq_true rfl, Nat.le_of_ble_eq_true rfl⟩) (cd_atO hj (by decide) (by decide)) rfl rfl hl.1 rfl (Nat.le_of_ble_eq_true rfl) dX4_readGrants_60 ⟨by (try dsimp only); omega, by (try dsimp only); omega⟩ (fun u H locs hp hw => ?_)
          obtain ⟨ca, hj, rfl⟩ := hp
          refine W.widen (k := b0.1 - p6.2.2.1) (n := b0.2 - p6.2.2.2) (by omega) (by omega) ?_
          refine lv_aload_n cx.1 cx.2.1 dX4_readGrants_63 rfl (lv_at hl 0 rfl) ?_
          obtain ⟨q8, e_q8, h⟩ := md_ob h
          obtain ⟨hm9, hn9, h⟩ := cd_cks h
          have hM9 : p.2.1 ≤ (Sum.elim (fun (p : Int32 × cd_S × cd_B) => p.2.2) (fun (t : cd_S × cd_B) => t.2) q8).1 ∧ p.2.2 ≤ (Sum.elim (fun (p : Int32 × cd_S × cd_B) => p.2.2) (fun (t : cd_S × cd_B) => t.2) q8).2 := ⟨Nat.le_trans hq1 hm9, Nat.le_trans hq2 hn9⟩
          cases q8 with
          | inr t8 =>
            obtain rfl : t8 = p := Sum.inr.inj (KR _ (Option.some.inj h).symm)
            have hlx8 := (kx_X4_readGrant l D cA E sz ad _ hj oq sgq sgv hE hX n p6.2.1 (p6.2.2)  t8 e_q8).1
            exact hp_callQv (As := []) (rest := []) cx hw hno ((kx_X4_readGrant l D cA E _ ad _ hj oq sgq sgv hE hX n p6.2.1 (p6.2.2)  t8 e_q8).2) (cwV 0 cx.2.2.2.2.2.1 (cd_giV cm_729 cm_730 cm_731 cm_663 cm_732) rfl rfl rfl hdc_X4_readGrant ⟨Nat.le_of_ble_eq_true rfl, Nat.le_of_ble_eq_true rfl⟩) (cd_atO hj (by decide) (by decide)) rfl rfl hl.1 rfl (Nat.le_of_ble_eq_true rfl) dX4_readGrants_64 ⟨by (try dsimp only); omega, by (try dsimp only); omega⟩ (by omega) (by omega)
          | inl p8 =>
            have hle8 := (kc_X4_readGrant l D cA E sz ad _ hj oq sgq sgv hE n p6.2.1 (p6.2.2)  p8 e_q8).1
            have hM10009 : p.2.1 ≤ p8.2.2.1 ∧ p.2.2 ≤ p8.2.2.2 := hM9
            have h := cd_inl h
            refine hp_callVv (As := []) (rest := []) cx hw ((kc_X4_readGrant l D cA E _ ad _ hj oq sgq sgv hE n p6.2.1 (p6.2.2)  p8 e_q8).2) (cwV 0 cx.2.2.2.2.2.1 (cd_giV cm_729 cm_730 cm_731 cm_663 cm_732) rfl rfl rfl hdc_X4_readGrant ⟨Nat.le_of_ble_eq_true rfl, Nat.le_of_ble_eq_true rfl⟩) (cd_atO hj (by decide) (by decide)) rfl rfl hl.1 rfl (Nat.le_of_ble_eq_true rfl) dX4_readGrants_64 ⟨by (try dsimp only); omega, by (try dsimp only); omega⟩ (fun u H locs hp hw => ?_)
            obtain ⟨ca, hj, rfl⟩ := hp
            refine W.widen (k := b0.1 - p8.2.2.1) (n := b0.2 - p8.2.2.2) (by omega) (by omega) ?_
            refine lv_iinc (v := (l1 + 1)) (lv' := [(1, .int (l1 + 1)), (0, .ref (ad 4 0))]) cx.1 cx.2.1 dX4_readGrants_67 hl (k := 1) rfl rfl (by decide) rfl (fun ls hl => ?_)
            refine lv_goto (tgt := 29) cx.1 cx.2.1 dX4_readGrants_70 (by decide) ?_
            exact ih _ hj p8.2.1 (p8.2.2) ((l1 + 1)) q _ _ _ (by omega) (by omega) (by omega) (by omega) hq1 hq2 h hw (lv_sub hl [1, 0] rfl) K KR
      refine lv_iload_n cx.1 cx.2.1 dX4_readGrants_29 rfl (lv_at hl 1 rfl) ?_
      refine lv_bipush (v := 8) cx.1 cx.2.1 dX4_readGrants_30 (by decide) ?_
      refine lv_icmp_gt (tgt := 73) cx.1 cx.2.1 dX4_readGrants_32 (by decide) (fun c32 => ?_) (fun c32 => ?_)
      · have h := md_ip c32 h
        exact K _ (Option.some.inj h).symm _ hj _ _ _ (by (try dsimp only); omega) (by (try dsimp only); omega) hw (lv_sub hl [] rfl)
      · have h := md_in c32 h
        refine lv_aload_n cx.1 cx.2.1 dX4_readGrants_35 rfl (lv_at hl 0 rfl) ?_
        refine cd_gO (o2 := 10) (e2 := 0) (o := 4) (k := 0) (f := 128) hj cx hw hic4 rfl ⟨by decide, rfl, by decide, rfl⟩ rfl (by decide) ⟨rfl, rfl⟩ (List.mem_cons_of_mem _ cm_658) dX4_readGrants_36 ?_
        refine cd_gI (o := 10) (k := 8) (f := 328) hj cx hw hic10 rfl ⟨by decide, rfl, by decide, rfl⟩ rfl (by decide) (List.mem_cons_of_mem _ cm_665) dX4_readGrants_39 ?_
        refine lv_sipush (v := 210) cx.1 cx.2.1 dX4_readGrants_42 (by decide) ?_
        refine lv_icmp_ne (tgt := 73) cx.1 cx.2.1 dX4_readGrants_45 (by decide) (fun c45 => ?_) (fun c45 => ?_)
        · have h := md_in c45 h
          exact K _ (Option.some.inj h).symm _ hj _ _ _ (by (try dsimp only); omega) (by (try dsimp only); omega) hw (lv_sub hl [] rfl)
        · have h := md_ip c45 h
          refine lv_aload_n cx.1 cx.2.1 dX4_readGrants_48 rfl (lv_at hl 0 rfl) ?_
          refine lv_iload_n cx.1 cx.2.1 dX4_readGrants_49 rfl (lv_at hl 1 rfl) ?_
          refine lv_bipush (v := 8) cx.1 cx.2.1 dX4_readGrants_50 (by decide) ?_
          refine lv_icmp_ge (tgt := 59) cx.1 cx.2.1 dX4_readGrants_52 (by decide) (fun c52 => ?_) (fun c52 => ?_)
          · have h := md_ip c52 h
            refine lv_iconst (v := 0) cx.1 cx.2.1 dX4_readGrants_59 (by decide) ?_
            exact J60 _ hj σ b l1 0 _ _ _ (by omega) (by omega) (by omega) (by omega) h hw (lv_sub hl [0, 1] rfl)
          · have h := md_in c52 h
            refine lv_iconst (v := 1) cx.1 cx.2.1 dX4_readGrants_55 (by decide) ?_
            refine lv_goto (tgt := 60) cx.1 cx.2.1 dX4_readGrants_56 (by decide) ?_
            exact J60 _ hj σ b l1 1 _ _ _ (by omega) (by omega) (by omega) (by omega) h hw (lv_sub hl [0, 1] rfl)
  obtain ⟨q10, e_q10, h⟩ := md_ob h
  obtain ⟨hm11, hn11, h⟩ := cd_cks h
  have hM11 : p.2.1 ≤ (Sum.elim (fun (q : ((Int32 × cd_S × cd_B) ⊕ (cd_S × cd_B))) => Sum.elim (fun (p : (Int32 × cd_S × cd_B)) => p.2.2) (fun (t : cd_S × cd_B) => t.2) q) (fun (q : cd_S × cd_B × Int32) => q.2.1) q10).1 ∧ p.2.2 ≤ (Sum.elim (fun (q : ((Int32 × cd_S × cd_B) ⊕ (cd_S × cd_B))) => Sum.elim (fun (p : (Int32 × cd_S × cd_B)) => p.2.2) (fun (t : cd_S × cd_B) => t.2) q) (fun (q : cd_S × cd_B × Int32) => q.2.1) q10).2 := ⟨hm11, hn11⟩
  refine L29 n _ hj σ5 b0 0 q10 _ _ _ (by omega) (by omega) (by omega) (by omega) hM11.1 hM11.2 e_q10 hw (lv_sub hl [1, 0] rfl) (fun t10 hq10 ca hj H locs ls hb1 hb2 hw hl => ?_) (fun r hr => by subst hr; exact Option.some.inj h)
  subst hq10
  have h := md_inr h
  have hS11 : p.2.1 ≤ t10.2.1.1 ∧ p.2.2 ≤ t10.2.1.2 := hM11
  exact nomatch Option.some.inj h
set_option maxHeartbeats 4000000 in
set_option maxRecDepth 100000 in
theorem kx_X4_hasModule (l : Launch) (D : va_G) (cA : Nat → ClassId) (E : hp_N) (sz : Nat) (ad : Nat → Nat → Nat) (ca0 : Nat → Nat) (hj : cd_inj ad ca0) (oq sgq sgv : Nat) (hE : cd_E E oq sgq sgv) (hX : cd_X l E) (n : Nat) (σ0 : cd_S) (b0 : cd_B) (p : (cd_S × cd_B)) (h : f_X4_hasModule n σ0 b0 = some (Sum.inr p)) : (p.2.1 ≤ b0.1 ∧ p.2.2 ≤ b0.2) ∧ vx_Met l yX4_hasModule (Cond.code yX4_hasModule cX4_hasModule 2 (some .boolean) :: v_CLS) ({ frames := 14, cells := b0.1 - p.2.1, slots := b0.2 - p.2.2, locals := 243 }) (hp_Pc D vwCl (hp_Tl cA) E sz (cd_pic cA ad ca0 σ0) [.ref (ad 4 0)]) (hp_Qv D vwCl (hp_Tl cA) sz (cd_pic cA ad ca0 σ0) (fun _ => False)) (hp_XQ D vwCl (hp_Tl cA) "java/lang/IllegalArgumentException" (cd_pic cA ad ca0 σ0) sz (fun u => ∃ ca1, cd_inj ad ca1 ∧ u = cd_pic cA ad ca1 p.1)) (b0.1 - p.2.1) (b0.2 - p.2.2) (hp_A (cd_pic cA ad ca0 σ0) sz) := by
  obtain ⟨hm0, hn0, h⟩ := cd_cks h
  have hM0 : p.2.1 ≤ b0.1 ∧ p.2.2 ≤ b0.2 := ⟨hm0, hn0⟩
  refine ⟨hM0, ?_⟩
  refine hp_ofWx (cc := cX4_hasModule) (maxL := 2) (ret := (some .boolean)) (by decide) rfl (Nat.le_of_ble_eq_true rfl) ?_
  intro pp ee ss mm bb mt cd ls cx hsz hw hl hno
  have hl : lv_has ls 2 [(0, .ref (ad 4 0))] := hl
  refine W.widen (k := b0.1 - b0.1) (n := b0.2 - b0.2) (Nat.zero_le _) (Nat.zero_le _) ?_
  have J49 : ∀ (ca : Nat → Nat) (hj : cd_inj ad ca) (σ : cd_S) (b : cd_B) (l1 : Int32) (t0 : Int32) (H : Heap) (locs : List Loc) (ls : Array Slot), b.1 ≤ b0.1 → b.2 ≤ b0.2 → p.2.1 ≤ b.1 → p.2.2 ≤ b.2 → f_X4_hasModule_J49 n σ b l1 t0 = some (Sum.inr p) → hp_w D vwCl (hp_Tl cA) E (hp_A (cd_pic cA ad ca0 σ0) sz) ss H locs (cd_pic cA ad ca σ) → lv_has ls 2 [(1, .int l1)] → W pp l ee ({ frames := 14, cells := b0.1 - p.2.1, slots := b0.2 - p.2.2, locals := 243 }) ss mm [.ref (ad 4 0)].toArray bb mt cd H locs (b0.1 - b.1) (b0.2 - b.2) (vx_MQ bb (hp_Qv D vwCl (hp_Tl cA) sz (cd_pic cA ad ca0 σ0) (fun _ => False)) (hp_XQ D vwCl (hp_Tl cA) "java/lang/IllegalArgumentException" (cd_pic cA ad ca0 σ0) sz (fun u => ∃ ca1, cd_inj ad ca1 ∧ u = cd_pic cA ad ca1 p.1)) [.ref (ad 4 0)].toArray ss (b0.1 - p.2.1) (b0.2 - p.2.2) (hp_A (cd_pic cA ad ca0 σ0) sz)) (F0 mm 49 ls [.int t0, .ref (ad 4 0)]) := by
    intro ca hj σ b l1 t0 H locs ls hb1 hb2 hf1 hf2 h hw hl
    obtain ⟨q1, e_q1, h⟩ := md_ob h
    obtain ⟨hm2, hn2, h⟩ := cd_cks h
    have hM2 : p.2.1 ≤ (Sum.elim (fun (p : Int32 × cd_S × cd_B) => p.2.2) (fun (t : cd_S × cd_B) => t.2) q1).1 ∧ p.2.2 ≤ (Sum.elim (fun (p : Int32 × cd_S × cd_B) => p.2.2) (fun (t : cd_S × cd_B) => t.2) q1).2 := ⟨hm2, hn2⟩
    cases q1 with
    | inr t1 =>
      obtain rfl : t1 = p := Sum.inr.inj (Option.some.inj h)
      have hlx1 := (kx_X4_need l D cA E sz ad _ hj oq sgq sgv hE hX n σ b t0 t1 e_q1).1
      exact hp_callQv (As := [.int t0]) (rest := []) cx hw hno ((kx_X4_need l D cA E _ ad _ hj oq sgq sgv hE hX n σ b t0 t1 e_q1).2) (cwV 1 cx.2.2.2.2.2.1 (cd_giV cm_666 cm_667 cm_668 cm_663 cm_669) rfl rfl rfl hdc_X4_need ⟨Nat.le_of_ble_eq_true rfl, Nat.le_of_ble_eq_true rfl⟩) (cd_atO hj (by decide) (by decide)) rfl rfl hl.1 rfl (Nat.le_of_ble_eq_true rfl) dX4_hasModule_49 ⟨by (try dsimp only); omega, by (try dsimp only); omega⟩ (by omega) (by omega)
    | inl p1 =>
      have hle1 := (kc_X4_need l D cA E sz ad _ hj oq sgq sgv hE n σ b t0 p1 e_q1).1
      have hM10002 : p.2.1 ≤ p1.2.2.1 ∧ p.2.2 ≤ p1.2.2.2 := hM2
      have h := cd_inl h
      refine hp_callVv (As := [.int t0]) (rest := []) cx hw ((kc_X4_need l D cA E _ ad _ hj oq sgq sgv hE n σ b t0 p1 e_q1).2) (cwV 1 cx.2.2.2.2.2.1 (cd_giV cm_666 cm_667 cm_668 cm_663 cm_669) rfl rfl rfl hdc_X4_need ⟨Nat.le_of_ble_eq_true rfl, Nat.le_of_ble_eq_true rfl⟩) (cd_atO hj (by decide) (by decide)) rfl rfl hl.1 rfl (Nat.le_of_ble_eq_true rfl) dX4_hasModule_49 ⟨by (try dsimp only); omega, by (try dsimp only); omega⟩ (fun u H locs hp hw => ?_)
      obtain ⟨ca, hj, rfl⟩ := hp
      refine W.widen (k := b0.1 - p1.2.2.1) (n := b0.2 - p1.2.2.2) (by omega) (by omega) ?_
      refine lv_iload_n cx.1 cx.2.1 dX4_hasModule_52 rfl (lv_at hl 0 rfl) ?_
      obtain ⟨z3, e_z3, h⟩ := md_ob h
      rw [(md_zbs e_z3).1] at h
      exact nomatch Option.some.inj h
  have J48 : ∀ (ca : Nat → Nat) (hj : cd_inj ad ca) (σ : cd_S) (b : cd_B) (l1 : Int32) (H : Heap) (locs : List Loc) (ls : Array Slot), b.1 ≤ b0.1 → b.2 ≤ b0.2 → p.2.1 ≤ b.1 → p.2.2 ≤ b.2 → f_X4_hasModule_J48 n σ b l1 = some (Sum.inr p) → hp_w D vwCl (hp_Tl cA) E (hp_A (cd_pic cA ad ca0 σ0) sz) ss H locs (cd_pic cA ad ca σ) → lv_has ls 2 [(1, .int l1)] → W pp l ee ({ frames := 14, cells := b0.1 - p.2.1, slots := b0.2 - p.2.2, locals := 243 }) ss mm [.ref (ad 4 0)].toArray bb mt cd H locs (b0.1 - b.1) (b0.2 - b.2) (vx_MQ bb (hp_Qv D vwCl (hp_Tl cA) sz (cd_pic cA ad ca0 σ0) (fun _ => False)) (hp_XQ D vwCl (hp_Tl cA) "java/lang/IllegalArgumentException" (cd_pic cA ad ca0 σ0) sz (fun u => ∃ ca1, cd_inj ad ca1 ∧ u = cd_pic cA ad ca1 p.1)) [.ref (ad 4 0)].toArray ss (b0.1 - p.2.1) (b0.2 - p.2.2) (hp_A (cd_pic cA ad ca0 σ0) sz)) (F0 mm 48 ls [.ref (ad 4 0)]) := by
    intro ca hj σ b l1 H locs ls hb1 hb2 hf1 hf2 h hw hl
    refine lv_iconst (v := 0) cx.1 cx.2.1 dX4_hasModule_48 (by decide) ?_
    exact J49 _ hj σ b l1 0 _ _ _ (by omega) (by omega) (by omega) (by omega) h hw (lv_sub hl [0] rfl)
  have J44 : ∀ (ca : Nat → Nat) (hj : cd_inj ad ca) (σ : cd_S) (b : cd_B) (l1 : Int32) (H : Heap) (locs : List Loc) (ls : Array Slot), b.1 ≤ b0.1 → b.2 ≤ b0.2 → p.2.1 ≤ b.1 → p.2.2 ≤ b.2 → f_X4_hasModule_J44 n σ b l1 = some (Sum.inr p) → hp_w D vwCl (hp_Tl cA) E (hp_A (cd_pic cA ad ca0 σ0) sz) ss H locs (cd_pic cA ad ca σ) → lv_has ls 2 [(1, .int l1)] → W pp l ee ({ frames := 14, cells := b0.1 - p.2.1, slots := b0.2 - p.2.2, locals := 243 }) ss mm [.ref (ad 4 0)].toArray bb mt cd H locs (b0.1 - b.1) (b0.2 - b.2) (vx_MQ bb (hp_Qv D vwCl (hp_Tl cA) sz (cd_pic cA ad ca0 σ0) (fun _ => False)) (hp_XQ D vwCl (hp_Tl cA) "java/lang/IllegalArgumentException" (cd_pic cA ad ca0 σ0) sz (fun u => ∃ ca1, cd_inj ad ca1 ∧ u = cd_pic cA ad ca1 p.1)) [.ref (ad 4 0)].toArray ss (b0.1 - p.2.1) (b0.2 - p.2.2) (hp_A (cd_pic cA ad ca0 σ0) sz)) (F0 mm 44 ls [.ref (ad 4 0)]) := by
    intro ca hj σ b l1 H locs ls hb1 hb2 hf1 hf2 h hw hl
    refine lv_iconst (v := 1) cx.1 cx.2.1 dX4_hasModule_44 (by decide) ?_
    refine lv_goto (tgt := 49) cx.1 cx.2.1 dX4_hasModule_45 (by decide) ?_
    exact J49 _ hj σ b l1 1 _ _ _ (by omega) (by omega) (by omega) (by omega) h hw (lv_sub hl [0] rfl)
  have J18 : ∀ (ca : Nat → Nat) (hj : cd_inj ad ca) (σ : cd_S) (b : cd_B) (t0 : Int32) (H : Heap) (locs : List Loc) (ls : Array Slot), b.1 ≤ b0.1 → b.2 ≤ b0.2 → p.2.1 ≤ b.1 → p.2.2 ≤ b.2 → f_X4_hasModule_J18 n σ b t0 = some (Sum.inr p) → hp_w D vwCl (hp_Tl cA) E (hp_A (cd_pic cA ad ca0 σ0) sz) ss H locs (cd_pic cA ad ca σ) → lv_has ls 2 [(0, .ref (ad 4 0))] → W pp l ee ({ frames := 14, cells := b0.1 - p.2.1, slots := b0.2 - p.2.2, locals := 243 }) ss mm [.ref (ad 4 0)].toArray bb mt cd H locs (b0.1 - b.1) (b0.2 - b.2) (vx_MQ bb (hp_Qv D vwCl (hp_Tl cA) sz (cd_pic cA ad ca0 σ0) (fun _ => False)) (hp_XQ D vwCl (hp_Tl cA) "java/lang/IllegalArgumentException" (cd_pic cA ad ca0 σ0) sz (fun u => ∃ ca1, cd_inj ad ca1 ∧ u = cd_pic cA ad ca1 p.1)) [.ref (ad 4 0)].toArray ss (b0.1 - p.2.1) (b0.2 - p.2.2) (hp_A (cd_pic cA ad ca0 σ0) sz)) (F0 mm 18 ls [.int t0]) := by
    intro ca hj σ b t0 H locs ls hb1 hb2 hf1 hf2 h hw hl
    refine lv_istore_n (lv' := [(1, .int t0), (0, .ref (ad 4 0))]) cx.1 cx.2.1 dX4_hasModule_18 rfl hl (by decide) rfl (fun ls hl => ?_)
    refine lv_aload_n cx.1 cx.2.1 dX4_hasModule_19 rfl (lv_at hl 1 rfl) ?_
    refine lv_iload_n cx.1 cx.2.1 dX4_hasModule_20 rfl (lv_at hl 0 rfl) ?_
    refine lv_if_ne (tgt := 44) cx.1 cx.2.1 dX4_hasModule_21 (by decide) (fun c21 => ?_) (fun c21 => ?_)
    · have h := md_in c21 h
      exact J44 _ hj σ b t0 _ _ _ (by omega) (by omega) (by omega) (by omega) h hw (lv_sub hl [0] rfl)
    · have h := md_ip c21 h
      refine lv_aload_n cx.1 cx.2.1 dX4_hasModule_24 rfl (lv_at hl 1 rfl) ?_
      refine cd_gO (o2 := 10) (e2 := 0) (o := 4) (k := 0) (f := 128) hj cx hw hic4 rfl ⟨by decide, rfl, by decide, rfl⟩ rfl (by decide) ⟨rfl, rfl⟩ (List.mem_cons_of_mem _ cm_658) dX4_hasModule_25 ?_
      refine cd_gI (o := 10) (k := 8) (f := 328) hj cx hw hic10 rfl ⟨by decide, rfl, by decide, rfl⟩ rfl (by decide) (List.mem_cons_of_mem _ cm_665) dX4_hasModule_28 ?_
      refine lv_if_ne (tgt := 48) cx.1 cx.2.1 dX4_hasModule_31 (by decide) (fun c31 => ?_) (fun c31 => ?_)
      · have h := md_in c31 h
        exact J48 _ hj σ b t0 _ _ _ (by omega) (by omega) (by omega) (by omega) h hw (lv_sub hl [0] rfl)
      · have h := md_ip c31 h
        refine lv_aload_n cx.1 cx.2.1 dX4_hasModule_34 rfl (lv_at hl 1 rfl) ?_
        refine cd_gO (o2 := 2) (e2 := 0) (o := 4) (k := 1) (f := 129) hj cx hw hic4 rfl ⟨by decide, rfl, by decide, rfl⟩ rfl (by decide) ⟨rfl, rfl⟩ (List.mem_cons_of_mem _ cm_722) dX4_hasModule_35 ?_
        refine cd_gI (o := 2) (k := 10) (f := 74) hj cx hw hic2 rfl ⟨by decide, rfl, by decide, rfl⟩ rfl (by decide) (List.mem_cons_of_mem _ cm_733) dX4_hasModule_38 ?_
        refine lv_if_le (tgt := 48) cx.1 cx.2.1 dX4_hasModule_41 (by decide) (fun c41 => ?_) (fun c41 => ?_)
        · have h := md_ip c41 h
          exact J48 _ hj σ b t0 _ _ _ (by omega) (by omega) (by omega) (by omega) h hw (lv_sub hl [0] rfl)
        · have h := md_in c41 h
          exact J44 _ hj σ b t0 _ _ _ (by omega) (by omega) (by omega) (by omega) h hw (lv_sub hl [0] rfl)
  refine lv_aload_n cx.1 cx.2.1 dX4_hasModule_0 rfl (lv_at hl 0 rfl) ?_
  refine cd_gO (o2 := 10) (e2 := 0) (o := 4) (k := 0) (f := 128) hj cx hw hic4 rfl ⟨by decide, rfl, by decide, rfl⟩ rfl (by decide) ⟨rfl, rfl⟩ (List.mem_cons_of_mem _ cm_658) dX4_hasModule_1 ?_
  refine cd_gI (o := 10) (k := 8) (f := 328) hj cx hw hic10 rfl ⟨by decide, rfl, by decide, rfl⟩ rfl (by decide) (List.mem_cons_of_mem _ cm_665) dX4_hasModule_4 ?_
  refine lv_sipush (v := 211) cx.1 cx.2.1 dX4_hasModule_7 (by decide) ?_
  refine lv_icmp_ne (tgt := 17) cx.1 cx.2.1 dX4_hasModule_10 (by decide) (fun c10 => ?_) (fun c10 => ?_)
  · have h := md_in c10 h
    refine lv_iconst (v := 0) cx.1 cx.2.1 dX4_hasModule_17 (by decide) ?_
    exact J18 _ hj σ0 b0 0 _ _ _ (by omega) (by omega) (by omega) (by omega) h hw (lv_sub hl [0] rfl)
  · have h := md_ip c10 h
    refine lv_iconst (v := 1) cx.1 cx.2.1 dX4_hasModule_13 (by decide) ?_
    refine lv_goto (tgt := 18) cx.1 cx.2.1 dX4_hasModule_14 (by decide) ?_
    exact J18 _ hj σ0 b0 1 _ _ _ (by omega) (by omega) (by omega) (by omega) h hw (lv_sub hl [0] rfl)
set_option maxHeartbeats 4000000 in
set_option maxRecDepth 100000 in
theorem kx_X4_readField (l : Launch) (D : va_G) (cA : Nat → ClassId) (E : hp_N) (sz : Nat) (ad : Nat → Nat → Nat) (ca0 : Nat → Nat) (hj : cd_inj ad ca0) (oq sgq sgv : Nat) (hE : cd_E E oq sgq sgv) (hX : cd_X l E) (n : Nat) (σ0 : cd_S) (b0 : cd_B) (p : (cd_S × cd_B)) (h : f_X4_readField n σ0 b0 = some (Sum.inr p)) : (p.2.1 ≤ b0.1 ∧ p.2.2 ≤ b0.2) ∧ vx_Met l yX4_readField (Cond.code yX4_readField cX4_readField 1 none :: v_CLS) ({ frames := 15, cells := b0.1 - p.2.1, slots := b0.2 - p.2.2, locals := 264 }) (hp_Pc D vwCl (hp_Tl cA) E sz (cd_pic cA ad ca0 σ0) [.ref (ad 4 0)]) (hp_Qv D vwCl (hp_Tl cA) sz (cd_pic cA ad ca0 σ0) (fun _ => False)) (hp_XQ D vwCl (hp_Tl cA) "java/lang/IllegalArgumentException" (cd_pic cA ad ca0 σ0) sz (fun u => ∃ ca1, cd_inj ad ca1 ∧ u = cd_pic cA ad ca1 p.1)) (b0.1 - p.2.1) (b0.2 - p.2.2) (hp_A (cd_pic cA ad ca0 σ0) sz) := by
  obtain ⟨hm0, hn0, h⟩ := cd_cks h
  have hM0 : p.2.1 ≤ b0.1 ∧ p.2.2 ≤ b0.2 := ⟨hm0, hn0⟩
  refine ⟨hM0, ?_⟩
  refine hp_ofWx (cc := cX4_readField) (maxL := 1) (ret := none) (by decide) rfl (Nat.le_of_ble_eq_true rfl) ?_
  intro pp ee ss mm bb mt cd ls cx hsz hw hl hno
  have hl : lv_has ls 1 [(0, .ref (ad 4 0))] := hl
  refine W.widen (k := b0.1 - b0.1) (n := b0.2 - b0.2) (Nat.zero_le _) (Nat.zero_le _) ?_
  have J69 : ∀ (ca : Nat → Nat) (hj : cd_inj ad ca) (σ : cd_S) (b : cd_B) (H : Heap) (locs : List Loc) (ls : Array Slot), b.1 ≤ b0.1 → b.2 ≤ b0.2 → p.2.1 ≤ b.1 → p.2.2 ≤ b.2 → f_X4_readField_J69 n σ b = some (Sum.inr p) → hp_w D vwCl (hp_Tl cA) E (hp_A (cd_pic cA ad ca0 σ0) sz) ss H locs (cd_pic cA ad ca σ) → lv_has ls 1 [(0, .ref (ad 4 0))] → W pp l ee ({ frames := 15, cells := b0.1 - p.2.1, slots := b0.2 - p.2.2, locals := 264 }) ss mm [.ref (ad 4 0)].toArray bb mt cd H locs (b0.1 - b.1) (b0.2 - b.2) (vx_MQ bb (hp_Qv D vwCl (hp_Tl cA) sz (cd_pic cA ad ca0 σ0) (fun _ => False)) (hp_XQ D vwCl (hp_Tl cA) "java/lang/IllegalArgumentException" (cd_pic cA ad ca0 σ0) sz (fun u => ∃ ca1, cd_inj ad ca1 ∧ u = cd_pic cA ad ca1 p.1)) [.ref (ad 4 0)].toArray ss (b0.1 - p.2.1) (b0.2 - p.2.2) (hp_A (cd_pic cA ad ca0 σ0) sz)) (F0 mm 69 ls []) := by
    intro ca hj σ b H locs ls hb1 hb2 hf1 hf2 h hw hl
    refine lv_aload_n cx.1 cx.2.1 dX4_readField_69 rfl (lv_at hl 0 rfl) ?_
    refine cd_gO (o2 := 2) (e2 := 0) (o := 4) (k := 1) (f := 129) hj cx hw hic4 rfl ⟨by decide, rfl, by decide, rfl⟩ rfl (by decide) ⟨rfl, rfl⟩ (List.mem_cons_of_mem _ cm_722) dX4_readField_70 ?_
    refine lv_aload_n cx.1 cx.2.1 dX4_readField_73 rfl (lv_at hl 0 rfl) ?_
    refine cd_gI (o := 4) (k := 9) (f := 137) hj cx hw hic4 rfl ⟨by decide, rfl, by decide, rfl⟩ rfl (by decide) (List.mem_cons_of_mem _ cm_734) dX4_readField_74 ?_
    refine lv_aload_n cx.1 cx.2.1 dX4_readField_77 rfl (lv_at hl 0 rfl) ?_
    refine cd_gO (o2 := 10) (e2 := 0) (o := 4) (k := 0) (f := 128) hj cx hw hic4 rfl ⟨by decide, rfl, by decide, rfl⟩ rfl (by decide) ⟨rfl, rfl⟩ (List.mem_cons_of_mem _ cm_658) dX4_readField_78 ?_
    refine cd_gJ (o := 10) (k := 10) (f := 330) hj cx hw hic10 rfl ⟨by decide, rfl, by decide, rfl⟩ rfl (by decide) (List.mem_cons_of_mem _ cm_695) dX4_readField_81 ?_
    obtain ⟨p1, e_p1, h⟩ := md_ob h
    refine hp_callVv (As := [.int (cI σ 137 0), .long (cJ σ 330 0)]) (rest := []) cx hw (kc_X2_addField l D cA E _ ad _ hj oq sgq sgv hE n σ ((cI σ 137 0)) ((cJ σ 330 0)) p1 e_p1) (cwV 2 cx.2.2.2.2.2.1 (cd_giV cm_740 cm_741 cm_742 cm_167 cm_743) rfl rfl rfl hdc_X2_addField ⟨Nat.le_of_ble_eq_true rfl, Nat.le_of_ble_eq_true rfl⟩) (cd_atO hj (by decide) (by decide)) rfl rfl hl.1 rfl (Nat.le_of_ble_eq_true rfl) dX4_readField_84 ⟨by (try dsimp only); omega, by (try dsimp only); omega⟩ (fun u H locs hp hw => ?_)
    obtain ⟨ca, hj, rfl⟩ := hp
    refine lv_aload_n cx.1 cx.2.1 dX4_readField_87 rfl (lv_at hl 0 rfl) ?_
    refine cd_gO (o2 := 10) (e2 := 0) (o := 4) (k := 0) (f := 128) hj cx hw hic4 rfl ⟨by decide, rfl, by decide, rfl⟩ rfl (by decide) ⟨rfl, rfl⟩ (List.mem_cons_of_mem _ cm_658) dX4_readField_88 ?_
    obtain ⟨p2, e_p2, h⟩ := md_ob h
    refine hp_callVv (As := []) (rest := []) cx hw (kc_X10_advance l D cA E _ ad _ hj oq sgq sgv hE n p1.2  p2 e_p2) (cwV 0 cx.2.2.2.2.2.1 (cd_giV cm_670 cm_671 cm_672 cm_301 cm_673) rfl rfl rfl hdc_X10_advance ⟨Nat.le_of_ble_eq_true rfl, Nat.le_of_ble_eq_true rfl⟩) (cd_atO hj (by decide) (by decide)) rfl rfl hl.1 rfl (Nat.le_of_ble_eq_true rfl) dX4_readField_91 ⟨by (try dsimp only); omega, by (try dsimp only); omega⟩ (fun u H locs hp hw => ?_)
    obtain ⟨ca, hj, rfl⟩ := hp
    refine lv_aload_n cx.1 cx.2.1 dX4_readField_94 rfl (lv_at hl 0 rfl) ?_
    refine lv_bipush (v := 59) cx.1 cx.2.1 dX4_readField_95 (by decide) ?_
    obtain ⟨q3, e_q3, h⟩ := md_ob h
    obtain ⟨hm4, hn4, h⟩ := cd_cks h
    have hM4 : p.2.1 ≤ (Sum.elim (fun (p : Int32 × cd_S × cd_B) => p.2.2) (fun (t : cd_S × cd_B) => t.2) q3).1 ∧ p.2.2 ≤ (Sum.elim (fun (p : Int32 × cd_S × cd_B) => p.2.2) (fun (t : cd_S × cd_B) => t.2) q3).2 := ⟨hm4, hn4⟩
    cases q3 with
    | inr t3 =>
      obtain rfl : t3 = p := Sum.inr.inj (Option.some.inj h)
      have hlx3 := (kx_X4_pass l D cA E sz ad _ hj oq sgq sgv hE hX n p2.2 b (59 : Int32) t3 e_q3).1
      exact hp_callQv (As := [.int 59]) (rest := []) cx hw hno ((kx_X4_pass l D cA E _ ad _ hj oq sgq sgv hE hX n p2.2 b (59 : Int32) t3 e_q3).2) (cwV 1 cx.2.2.2.2.2.1 (cd_giV cm_714 cm_715 cm_716 cm_663 cm_717) rfl rfl rfl hdc_X4_pass ⟨Nat.le_of_ble_eq_true rfl, Nat.le_of_ble_eq_true rfl⟩) (cd_atO hj (by decide) (by decide)) rfl rfl hl.1 rfl (Nat.le_of_ble_eq_true rfl) dX4_readField_97 ⟨by (try dsimp only); omega, by (try dsimp only); omega⟩ (by omega) (by omega)
    | inl p3 =>
      have hle3 := (kc_X4_pass l D cA E sz ad _ hj oq sgq sgv hE n p2.2 b (59 : Int32) p3 e_q3).1
      have hM10004 : p.2.1 ≤ p3.2.2.1 ∧ p.2.2 ≤ p3.2.2.2 := hM4
      have h := cd_inl h
      refine hp_callVv (As := [.int 59]) (rest := []) cx hw ((kc_X4_pass l D cA E _ ad _ hj oq sgq sgv hE n p2.2 b (59 : Int32) p3 e_q3).2) (cwV 1 cx.2.2.2.2.2.1 (cd_giV cm_714 cm_715 cm_716 cm_663 cm_717) rfl rfl rfl hdc_X4_pass ⟨Nat.le_of_ble_eq_true rfl, Nat.le_of_ble_eq_true rfl⟩) (cd_atO hj (by decide) (by decide)) rfl rfl hl.1 rfl (Nat.le_of_ble_eq_true rfl) dX4_readField_97 ⟨by (try dsimp only); omega, by (try dsimp only); omega⟩ (fun u H locs hp hw => ?_)
      obtain ⟨ca, hj, rfl⟩ := hp
      refine W.widen (k := b0.1 - p3.2.2.1) (n := b0.2 - p3.2.2.2) (by omega) (by omega) ?_
      exact nomatch Option.some.inj h
  have J32 : ∀ (ca : Nat → Nat) (hj : cd_inj ad ca) (σ : cd_S) (b : cd_B) (t0 : Int32) (H : Heap) (locs : List Loc) (ls : Array Slot), b.1 ≤ b0.1 → b.2 ≤ b0.2 → p.2.1 ≤ b.1 → p.2.2 ≤ b.2 → f_X4_readField_J32 n σ b t0 = some (Sum.inr p) → hp_w D vwCl (hp_Tl cA) E (hp_A (cd_pic cA ad ca0 σ0) sz) ss H locs (cd_pic cA ad ca σ) → lv_has ls 1 [(0, .ref (ad 4 0))] → W pp l ee ({ frames := 15, cells := b0.1 - p.2.1, slots := b0.2 - p.2.2, locals := 264 }) ss mm [.ref (ad 4 0)].toArray bb mt cd H locs (b0.1 - b.1) (b0.2 - b.2) (vx_MQ bb (hp_Qv D vwCl (hp_Tl cA) sz (cd_pic cA ad ca0 σ0) (fun _ => False)) (hp_XQ D vwCl (hp_Tl cA) "java/lang/IllegalArgumentException" (cd_pic cA ad ca0 σ0) sz (fun u => ∃ ca1, cd_inj ad ca1 ∧ u = cd_pic cA ad ca1 p.1)) [.ref (ad 4 0)].toArray ss (b0.1 - p.2.1) (b0.2 - p.2.2) (hp_A (cd_pic cA ad ca0 σ0) sz)) (F0 mm 32 ls [.int t0, .ref (ad 4 0)]) := by
    intro ca hj σ b t0 H locs ls hb1 hb2 hf1 hf2 h hw hl
    obtain ⟨q5, e_q5, h⟩ := md_ob h
    obtain ⟨hm6, hn6, h⟩ := cd_cks h
    have hM6 : p.2.1 ≤ (Sum.elim (fun (p : Int32 × cd_S × cd_B) => p.2.2) (fun (t : cd_S × cd_B) => t.2) q5).1 ∧ p.2.2 ≤ (Sum.elim (fun (p : Int32 × cd_S × cd_B) => p.2.2) (fun (t : cd_S × cd_B) => t.2) q5).2 := ⟨hm6, hn6⟩
    cases q5 with
    | inr t5 =>
      obtain rfl : t5 = p := Sum.inr.inj (Option.some.inj h)
      have hlx5 := (kx_X4_room l D cA E sz ad _ hj oq sgq sgv hE hX n σ b t0 t5 e_q5).1
      exact hp_callQv (As := [.int t0]) (rest := []) cx hw hno ((kx_X4_room l D cA E _ ad _ hj oq sgq sgv hE hX n σ b t0 t5 e_q5).2) (cwV 1 cx.2.2.2.2.2.1 (cd_giV cm_691 cm_692 cm_693 cm_663 cm_694) rfl rfl rfl hdc_X4_room ⟨Nat.le_of_ble_eq_true rfl, Nat.le_of_ble_eq_true rfl⟩) (cd_atO hj (by decide) (by decide)) rfl rfl hl.1 rfl (Nat.le_of_ble_eq_true rfl) dX4_readField_32 ⟨by (try dsimp only); omega, by (try dsimp only); omega⟩ (by omega) (by omega)
    | inl p5 =>
      have hle5 := (kc_X4_room l D cA E sz ad _ hj oq sgq sgv hE n σ b t0 p5 e_q5).1
      have hM10006 : p.2.1 ≤ p5.2.2.1 ∧ p.2.2 ≤ p5.2.2.2 := hM6
      have h := cd_inl h
      refine hp_callVv (As := [.int t0]) (rest := []) cx hw ((kc_X4_room l D cA E _ ad _ hj oq sgq sgv hE n σ b t0 p5 e_q5).2) (cwV 1 cx.2.2.2.2.2.1 (cd_giV cm_691 cm_692 cm_693 cm_663 cm_694) rfl rfl rfl hdc_X4_room ⟨Nat.le_of_ble_eq_true rfl, Nat.le_of_ble_eq_true rfl⟩) (cd_atO hj (by decide) (by decide)) rfl rfl hl.1 rfl (Nat.le_of_ble_eq_true rfl) dX4_readField_32 ⟨by (try dsimp only); omega, by (try dsimp only); omega⟩ (fun u H locs hp hw => ?_)
      obtain ⟨ca, hj, rfl⟩ := hp
      refine W.widen (k := b0.1 - p5.2.2.1) (n := b0.2 - p5.2.2.2) (by omega) (by omega) ?_
      refine lv_aload_n cx.1 cx.2.1 dX4_readField_35 rfl (lv_at hl 0 rfl) ?_
      refine cd_gO (o2 := 2) (e2 := 0) (o := 4) (k := 1) (f := 129) hj cx hw hic4 rfl ⟨by decide, rfl, by decide, rfl⟩ rfl (by decide) ⟨rfl, rfl⟩ (List.mem_cons_of_mem _ cm_722) dX4_readField_36 ?_
      refine lv_aload_n cx.1 cx.2.1 dX4_readField_39 rfl (lv_at hl 0 rfl) ?_
      refine cd_gI (o := 4) (k := 9) (f := 137) hj cx hw hic4 rfl ⟨by decide, rfl, by decide, rfl⟩ rfl (by decide) (List.mem_cons_of_mem _ cm_734) dX4_readField_40 ?_
      refine lv_aload_n cx.1 cx.2.1 dX4_readField_43 rfl (lv_at hl 0 rfl) ?_
      refine cd_gO (o2 := 10) (e2 := 0) (o := 4) (k := 0) (f := 128) hj cx hw hic4 rfl ⟨by decide, rfl, by decide, rfl⟩ rfl (by decide) ⟨rfl, rfl⟩ (List.mem_cons_of_mem _ cm_658) dX4_readField_44 ?_
      refine cd_gJ (o := 10) (k := 10) (f := 330) hj cx hw hic10 rfl ⟨by decide, rfl, by decide, rfl⟩ rfl (by decide) (List.mem_cons_of_mem _ cm_695) dX4_readField_47 ?_
      obtain ⟨p7, e_p7, h⟩ := md_ob h
      refine hp_callVi (As := [.int (cI p5.2.1 137 0), .long (cJ p5.2.1 330 0)]) (rest := []) cx hw (kc_X2_fieldSlot l D cA E _ ad _ hj oq sgq sgv hE n p5.2.1 ((cI p5.2.1 137 0)) ((cJ p5.2.1 330 0)) p7 e_p7) (cwV 2 cx.2.2.2.2.2.1 (cd_giV cm_739 cm_389 cm_390 cm_167 cm_391) rfl rfl rfl hdc_X2_fieldSlot ⟨Nat.le_of_ble_eq_true rfl, Nat.le_of_ble_eq_true rfl⟩) (cd_atO hj (by decide) (by decide)) rfl rfl hl.1 rfl (Nat.le_of_ble_eq_true rfl) dX4_readField_50 ⟨by (try dsimp only); omega, by (try dsimp only); omega⟩ (fun r u H locs hp hw => ?_)
      obtain ⟨rfl, ca, hj, rfl⟩ := hp
      refine lv_iconst (v := (-1)) cx.1 cx.2.1 dX4_readField_53 (by decide) ?_
      refine lv_icmp_eq (tgt := 69) cx.1 cx.2.1 dX4_readField_54 (by decide) (fun c54 => ?_) (fun c54 => ?_)
      · have h := md_ip c54 h
        exact J69 _ hj p7.2 (p5.2.2) _ _ _ (by omega) (by omega) (by omega) (by omega) h hw (lv_sub hl [0] rfl)
      · have h := md_in c54 h
        refine lv_aload_n cx.1 cx.2.1 dX4_readField_57 rfl (lv_at hl 0 rfl) ?_
        refine lv_iconst (v := 2) cx.1 cx.2.1 dX4_readField_58 (by decide) ?_
        refine lv_aload_n cx.1 cx.2.1 dX4_readField_59 rfl (lv_at hl 0 rfl) ?_
        refine cd_gO (o2 := 10) (e2 := 0) (o := 4) (k := 0) (f := 128) hj cx hw hic4 rfl ⟨by decide, rfl, by decide, rfl⟩ rfl (by decide) ⟨rfl, rfl⟩ (List.mem_cons_of_mem _ cm_658) dX4_readField_60 ?_
        refine cd_gI (o := 10) (k := 9) (f := 329) hj cx hw hic10 rfl ⟨by decide, rfl, by decide, rfl⟩ rfl (by decide) (List.mem_cons_of_mem _ cm_659) dX4_readField_63 ?_
        obtain ⟨q8, e_q8, h⟩ := md_ob h
        obtain ⟨hm9, hn9, h⟩ := cd_cks h
        have hM9 : p.2.1 ≤ (Sum.elim (fun (p : Int32 × cd_S × cd_B) => p.2.2) (fun (t : cd_S × cd_B) => t.2) q8).1 ∧ p.2.2 ≤ (Sum.elim (fun (p : Int32 × cd_S × cd_B) => p.2.2) (fun (t : cd_S × cd_B) => t.2) q8).2 := ⟨hm9, hn9⟩
        cases q8 with
        | inr t8 =>
          obtain rfl : t8 = p := Sum.inr.inj (Option.some.inj h)
          have hlx8 := (kx_X4_refuse l D cA E sz ad _ hj oq sgq sgv hE hX n p7.2 (p5.2.2) (2 : Int32) ((cI p7.2 329 0)) t8 e_q8).1
          exact hp_callQv (As := [.int 2, .int (cI p7.2 329 0)]) (rest := []) cx hw hno ((kx_X4_refuse l D cA E _ ad _ hj oq sgq sgv hE hX n p7.2 (p5.2.2) (2 : Int32) ((cI p7.2 329 0)) t8 e_q8).2) (cwV 2 cx.2.2.2.2.2.1 (cd_giV cm_660 cm_661 cm_662 cm_663 cm_664) rfl rfl rfl hdc_X4_refuse ⟨Nat.le_of_ble_eq_true rfl, Nat.le_of_ble_eq_true rfl⟩) (cd_atO hj (by decide) (by decide)) rfl rfl hl.1 rfl (Nat.le_of_ble_eq_true rfl) dX4_readField_66 ⟨by (try dsimp only); omega, by (try dsimp only); omega⟩ (by omega) (by omega)
        | inl p8 =>
          have hle8 := (kc_X4_refuse l D cA E sz ad _ hj oq sgq sgv hE n p7.2 (p5.2.2) (2 : Int32) ((cI p7.2 329 0)) p8 e_q8).1
          have hM10009 : p.2.1 ≤ p8.2.2.1 ∧ p.2.2 ≤ p8.2.2.2 := hM9
          have h := cd_inl h
          refine hp_callVv (As := [.int 2, .int (cI p7.2 329 0)]) (rest := []) cx hw ((kc_X4_refuse l D cA E _ ad _ hj oq sgq sgv hE n p7.2 (p5.2.2) (2 : Int32) ((cI p7.2 329 0)) p8 e_q8).2) (cwV 2 cx.2.2.2.2.2.1 (cd_giV cm_660 cm_661 cm_662 cm_663 cm_664) rfl rfl rfl hdc_X4_refuse ⟨Nat.le_of_ble_eq_true rfl, Nat.le_of_ble_eq_true rfl⟩) (cd_atO hj (by decide) (by decide)) rfl rfl hl.1 rfl (Nat.le_of_ble_eq_true rfl) dX4_readField_66 ⟨by (try dsimp only); omega, by (try dsimp only); omega⟩ (fun u H locs hp hw => ?_)
          obtain ⟨ca, hj, rfl⟩ := hp
          refine W.widen (k := b0.1 - p8.2.2.1) (n := b0.2 - p8.2.2.2) (by omega) (by omega) ?_
          exact J69 _ hj p8.2.1 (p8.2.2) _ _ _ (by omega) (by omega) (by omega) (by omega) h hw (lv_sub hl [0] rfl)
  refine lv_aload_n cx.1 cx.2.1 dX4_readField_0 rfl (lv_at hl 0 rfl) ?_
  refine cd_gO (o2 := 10) (e2 := 0) (o := 4) (k := 0) (f := 128) hj cx hw hic4 rfl ⟨by decide, rfl, by decide, rfl⟩ rfl (by decide) ⟨rfl, rfl⟩ (List.mem_cons_of_mem _ cm_658) dX4_readField_1 ?_
  obtain ⟨p10, e_p10, h⟩ := md_ob h
  refine hp_callVv (As := []) (rest := []) cx hw (kc_X10_advance l D cA E _ ad _ hj oq sgq sgv hE n σ0  p10 e_p10) (cwV 0 cx.2.2.2.2.2.1 (cd_giV cm_670 cm_671 cm_672 cm_301 cm_673) rfl rfl rfl hdc_X10_advance ⟨Nat.le_of_ble_eq_true rfl, Nat.le_of_ble_eq_true rfl⟩) (cd_atO hj (by decide) (by decide)) rfl rfl hl.1 rfl (Nat.le_of_ble_eq_true rfl) dX4_readField_4 ⟨by (try dsimp only); omega, by (try dsimp only); omega⟩ (fun u H locs hp hw => ?_)
  obtain ⟨ca, hj, rfl⟩ := hp
  refine lv_aload_n cx.1 cx.2.1 dX4_readField_7 rfl (lv_at hl 0 rfl) ?_
  obtain ⟨q11, e_q11, h⟩ := md_ob h
  obtain ⟨hm12, hn12, h⟩ := cd_cks h
  have hM12 : p.2.1 ≤ (Sum.elim (fun (p : Int32 × cd_S × cd_B) => p.2.2) (fun (t : cd_S × cd_B) => t.2) q11).1 ∧ p.2.2 ≤ (Sum.elim (fun (p : Int32 × cd_S × cd_B) => p.2.2) (fun (t : cd_S × cd_B) => t.2) q11).2 := ⟨hm12, hn12⟩
  cases q11 with
  | inr t11 =>
    obtain rfl : t11 = p := Sum.inr.inj (Option.some.inj h)
    have hlx11 := (kx_X4_needName l D cA E sz ad _ hj oq sgq sgv hE hX n p10.2 b0  t11 e_q11).1
    exact hp_callQv (As := []) (rest := []) cx hw hno ((kx_X4_needName l D cA E _ ad _ hj oq sgq sgv hE hX n p10.2 b0  t11 e_q11).2) (cwV 0 cx.2.2.2.2.2.1 (cd_giV cm_687 cm_688 cm_689 cm_663 cm_690) rfl rfl rfl hdc_X4_needName ⟨Nat.le_of_ble_eq_true rfl, Nat.le_of_ble_eq_true rfl⟩) (cd_atO hj (by decide) (by decide)) rfl rfl hl.1 rfl (Nat.le_of_ble_eq_true rfl) dX4_readField_8 ⟨by (try dsimp only); omega, by (try dsimp only); omega⟩ (by omega) (by omega)
  | inl p11 =>
    have hle11 := (kc_X4_needName l D cA E sz ad _ hj oq sgq sgv hE n p10.2 b0  p11 e_q11).1
    have hM10012 : p.2.1 ≤ p11.2.2.1 ∧ p.2.2 ≤ p11.2.2.2 := hM12
    have h := cd_inl h
    refine hp_callVv (As := []) (rest := []) cx hw ((kc_X4_needName l D cA E _ ad _ hj oq sgq sgv hE n p10.2 b0  p11 e_q11).2) (cwV 0 cx.2.2.2.2.2.1 (cd_giV cm_687 cm_688 cm_689 cm_663 cm_690) rfl rfl rfl hdc_X4_needName ⟨Nat.le_of_ble_eq_true rfl, Nat.le_of_ble_eq_true rfl⟩) (cd_atO hj (by decide) (by decide)) rfl rfl hl.1 rfl (Nat.le_of_ble_eq_true rfl) dX4_readField_8 ⟨by (try dsimp only); omega, by (try dsimp only); omega⟩ (fun u H locs hp hw => ?_)
    obtain ⟨ca, hj, rfl⟩ := hp
    refine W.widen (k := b0.1 - p11.2.2.1) (n := b0.2 - p11.2.2.2) (by omega) (by omega) ?_
    refine lv_aload_n cx.1 cx.2.1 dX4_readField_11 rfl (lv_at hl 0 rfl) ?_
    refine lv_aload_n cx.1 cx.2.1 dX4_readField_12 rfl (lv_at hl 0 rfl) ?_
    refine cd_gO (o2 := 2) (e2 := 0) (o := 4) (k := 1) (f := 129) hj cx hw hic4 rfl ⟨by decide, rfl, by decide, rfl⟩ rfl (by decide) ⟨rfl, rfl⟩ (List.mem_cons_of_mem _ cm_722) dX4_readField_13 ?_
    refine lv_aload_n cx.1 cx.2.1 dX4_readField_16 rfl (lv_at hl 0 rfl) ?_
    refine cd_gI (o := 4) (k := 9) (f := 137) hj cx hw hic4 rfl ⟨by decide, rfl, by decide, rfl⟩ rfl (by decide) (List.mem_cons_of_mem _ cm_734) dX4_readField_17 ?_
    obtain ⟨p13, e_p13, h⟩ := md_ob h
    refine hp_callVi (As := [.int (cI p11.2.1 137 0)]) (rest := [.ref (ad 4 0)]) cx hw (kc_X2_fieldCount l D cA E _ ad _ hj oq sgq sgv hE n p11.2.1 ((cI p11.2.1 137 0)) p13 e_p13) (cwV 1 cx.2.2.2.2.2.1 (cd_giV cm_735 cm_736 cm_737 cm_167 cm_738) rfl rfl rfl hdc_X2_fieldCount ⟨Nat.le_of_ble_eq_true rfl, Nat.le_of_ble_eq_true rfl⟩) (cd_atO hj (by decide) (by decide)) rfl rfl hl.1 rfl (Nat.le_of_ble_eq_true rfl) dX4_readField_20 ⟨by (try dsimp only); omega, by (try dsimp only); omega⟩ (fun r u H locs hp hw => ?_)
    obtain ⟨rfl, ca, hj, rfl⟩ := hp
    refine lv_iconst (v := 4) cx.1 cx.2.1 dX4_readField_23 (by decide) ?_
    refine lv_icmp_ge (tgt := 31) cx.1 cx.2.1 dX4_readField_24 (by decide) (fun c24 => ?_) (fun c24 => ?_)
    · have h := md_ip c24 h
      refine lv_iconst (v := 0) cx.1 cx.2.1 dX4_readField_31 (by decide) ?_
      exact J32 _ hj p13.2 (p11.2.2) 0 _ _ _ (by omega) (by omega) (by omega) (by omega) h hw (lv_sub hl [0] rfl)
    · have h := md_in c24 h
      refine lv_iconst (v := 1) cx.1 cx.2.1 dX4_readField_27 (by decide) ?_
      refine lv_goto (tgt := 32) cx.1 cx.2.1 dX4_readField_28 (by decide) ?_
      exact J32 _ hj p13.2 (p11.2.2) 1 _ _ _ (by omega) (by omega) (by omega) (by omega) h hw (lv_sub hl [0] rfl)
set_option maxHeartbeats 4000000 in
set_option maxRecDepth 100000 in
theorem kx_X4_openUnit (l : Launch) (D : va_G) (cA : Nat → ClassId) (E : hp_N) (sz : Nat) (ad : Nat → Nat → Nat) (ca0 : Nat → Nat) (hj : cd_inj ad ca0) (oq sgq sgv : Nat) (hE : cd_E E oq sgq sgv) (hX : cd_X l E) (n : Nat) (σ0 : cd_S) (b0 : cd_B) (a1 : Int32) (p : (cd_S × cd_B)) (h : f_X4_openUnit n σ0 b0 a1 = some (Sum.inr p)) : (p.2.1 ≤ b0.1 ∧ p.2.2 ≤ b0.2) ∧ vx_Met l yX4_openUnit (Cond.code yX4_openUnit cX4_openUnit 3 (some (.object "WardenHouse$Unit")) :: v_CLS) ({ frames := 14, cells := b0.1 - p.2.1, slots := b0.2 - p.2.2, locals := 243 }) (hp_Pc D vwCl (hp_Tl cA) E sz (cd_pic cA ad ca0 σ0) [.ref (ad 4 0), .int a1]) (hp_Qv D vwCl (hp_Tl cA) sz (cd_pic cA ad ca0 σ0) (fun _ => False)) (hp_XQ D vwCl (hp_Tl cA) "java/lang/IllegalArgumentException" (cd_pic cA ad ca0 σ0) sz (fun u => ∃ ca1, cd_inj ad ca1 ∧ u = cd_pic cA ad ca1 p.1)) (b0.1 - p.2.1) (b0.2 - p.2.2) (hp_A (cd_pic cA ad ca0 σ0) sz) := by
  obtain ⟨hm0, hn0, h⟩ := cd_cks h
  have hM0 : p.2.1 ≤ b0.1 ∧ p.2.2 ≤ b0.2 := ⟨hm0, hn0⟩
  refine ⟨hM0, ?_⟩
  refine hp_ofWx (cc := cX4_openUnit) (maxL := 3) (ret := (some (.object "WardenHouse$Unit"))) (by decide) rfl (Nat.le_of_ble_eq_true rfl) ?_
  intro pp ee ss mm bb mt cd ls cx hsz hw hl hno
  have hl : lv_has ls 3 [(0, .ref (ad 4 0)), (1, .int a1)] := hl
  refine W.widen (k := b0.1 - b0.1) (n := b0.2 - b0.2) (Nat.zero_le _) (Nat.zero_le _) ?_
  have J60 : ∀ (ca : Nat → Nat) (hj : cd_inj ad ca) (σ : cd_S) (b : cd_B) (l2 : Nat) (t0 : Int32) (t1 : Nat) (H : Heap) (locs : List Loc) (ls : Array Slot), l2 < 60 → t1 < 60 → b.1 ≤ b0.1 → b.2 ≤ b0.2 → p.2.1 ≤ b.1 → p.2.2 ≤ b.2 → f_X4_openUnit_J60 n σ b l2 t0 t1 = some (Sum.inr p) → hp_w D vwCl (hp_Tl cA) E (hp_A (cd_pic cA ad ca0 σ0) sz) ss H locs (cd_pic cA ad ca σ) → lv_has ls 3 [(2, .ref (ad 9 l2))] → W pp l ee ({ frames := 14, cells := b0.1 - p.2.1, slots := b0.2 - p.2.2, locals := 243 }) ss mm [.ref (ad 4 0), .int a1].toArray bb mt cd H locs (b0.1 - b.1) (b0.2 - b.2) (vx_MQ bb (hp_Qv D vwCl (hp_Tl cA) sz (cd_pic cA ad ca0 σ0) (fun _ => False)) (hp_XQ D vwCl (hp_Tl cA) "java/lang/IllegalArgumentException" (cd_pic cA ad ca0 σ0) sz (fun u => ∃ ca1, cd_inj ad ca1 ∧ u = cd_pic cA ad ca1 p.1)) [.ref (ad 4 0), .int a1].toArray ss (b0.1 - p.2.1) (b0.2 - p.2.2) (hp_A (cd_pic cA ad ca0 σ0) sz)) (F0 mm 60 ls [.int t0, .ref (ad 9 t1)]) := by
    intro ca hj σ b l2 t0 t1 H locs ls hb_l2 hb_t1 hb1 hb2 hf1 hf2 h hw hl
    obtain ⟨σ1, e_σ1, h⟩ := md_ob h
    refine cd_pI (o := 9) (k := 7) (f := 295) hj cx hw hic9 rfl ⟨by decide, rfl, by decide, rfl⟩ tyX9_ok nmX9 rfl (show _ < 60 by omega) rfl (List.mem_cons_of_mem _ cm_751) rfl e_σ1 dX4_openUnit_60 (fun H locs hw => ?_)
    refine lv_aload_n cx.1 cx.2.1 dX4_openUnit_63 rfl (lv_at hl 0 rfl) ?_
    exact nomatch Option.some.inj h
  have J18 : ∀ (ca : Nat → Nat) (hj : cd_inj ad ca) (σ : cd_S) (b : cd_B) (l1 : Int32) (t0 : Int32) (H : Heap) (locs : List Loc) (ls : Array Slot), b.1 ≤ b0.1 → b.2 ≤ b0.2 → p.2.1 ≤ b.1 → p.2.2 ≤ b.2 → f_X4_openUnit_J18 n σ b l1 t0 = some (Sum.inr p) → hp_w D vwCl (hp_Tl cA) E (hp_A (cd_pic cA ad ca0 σ0) sz) ss H locs (cd_pic cA ad ca σ) → lv_has ls 3 [(0, .ref (ad 4 0)), (1, .int l1)] → W pp l ee ({ frames := 14, cells := b0.1 - p.2.1, slots := b0.2 - p.2.2, locals := 243 }) ss mm [.ref (ad 4 0), .int a1].toArray bb mt cd H locs (b0.1 - b.1) (b0.2 - b.2) (vx_MQ bb (hp_Qv D vwCl (hp_Tl cA) sz (cd_pic cA ad ca0 σ0) (fun _ => False)) (hp_XQ D vwCl (hp_Tl cA) "java/lang/IllegalArgumentException" (cd_pic cA ad ca0 σ0) sz (fun u => ∃ ca1, cd_inj ad ca1 ∧ u = cd_pic cA ad ca1 p.1)) [.ref (ad 4 0), .int a1].toArray ss (b0.1 - p.2.1) (b0.2 - p.2.2) (hp_A (cd_pic cA ad ca0 σ0) sz)) (F0 mm 18 ls [.int t0, .ref (ad 4 0)]) := by
    intro ca hj σ b l1 t0 H locs ls hb1 hb2 hf1 hf2 h hw hl
    obtain ⟨q2, e_q2, h⟩ := md_ob h
    obtain ⟨hm3, hn3, h⟩ := cd_cks h
    have hM3 : p.2.1 ≤ (Sum.elim (fun (p : Int32 × cd_S × cd_B) => p.2.2) (fun (t : cd_S × cd_B) => t.2) q2).1 ∧ p.2.2 ≤ (Sum.elim (fun (p : Int32 × cd_S × cd_B) => p.2.2) (fun (t : cd_S × cd_B) => t.2) q2).2 := ⟨hm3, hn3⟩
    cases q2 with
    | inr t2 =>
      obtain rfl : t2 = p := Sum.inr.inj (Option.some.inj h)
      have hlx2 := (kx_X4_room l D cA E sz ad _ hj oq sgq sgv hE hX n σ b t0 t2 e_q2).1
      exact hp_callQv (As := [.int t0]) (rest := []) cx hw hno ((kx_X4_room l D cA E _ ad _ hj oq sgq sgv hE hX n σ b t0 t2 e_q2).2) (cwV 1 cx.2.2.2.2.2.1 (cd_giV cm_691 cm_692 cm_693 cm_663 cm_694) rfl rfl rfl hdc_X4_room ⟨Nat.le_of_ble_eq_true rfl, Nat.le_of_ble_eq_true rfl⟩) (cd_atO hj (by decide) (by decide)) rfl rfl hl.1 rfl (Nat.le_of_ble_eq_true rfl) dX4_openUnit_18 ⟨by (try dsimp only); omega, by (try dsimp only); omega⟩ (by omega) (by omega)
    | inl p2 =>
      have hle2 := (kc_X4_room l D cA E sz ad _ hj oq sgq sgv hE n σ b t0 p2 e_q2).1
      have hM10003 : p.2.1 ≤ p2.2.2.1 ∧ p.2.2 ≤ p2.2.2.2 := hM3
      have h := cd_inl h
      refine hp_callVv (As := [.int t0]) (rest := []) cx hw ((kc_X4_room l D cA E _ ad _ hj oq sgq sgv hE n σ b t0 p2 e_q2).2) (cwV 1 cx.2.2.2.2.2.1 (cd_giV cm_691 cm_692 cm_693 cm_663 cm_694) rfl rfl rfl hdc_X4_room ⟨Nat.le_of_ble_eq_true rfl, Nat.le_of_ble_eq_true rfl⟩) (cd_atO hj (by decide) (by decide)) rfl rfl hl.1 rfl (Nat.le_of_ble_eq_true rfl) dX4_openUnit_18 ⟨by (try dsimp only); omega, by (try dsimp only); omega⟩ (fun u H locs hp hw => ?_)
      obtain ⟨ca, hj, rfl⟩ := hp
      refine W.widen (k := b0.1 - p2.2.2.1) (n := b0.2 - p2.2.2.2) (by omega) (by omega) ?_
      refine lv_aload_n cx.1 cx.2.1 dX4_openUnit_21 rfl (lv_at hl 0 rfl) ?_
      refine cd_gO (o2 := 2) (e2 := 0) (o := 4) (k := 1) (f := 129) hj cx hw hic4 rfl ⟨by decide, rfl, by decide, rfl⟩ rfl (by decide) ⟨rfl, rfl⟩ (List.mem_cons_of_mem _ cm_722) dX4_openUnit_22 ?_
      refine lv_iload_n cx.1 cx.2.1 dX4_openUnit_25 rfl (lv_at hl 1 rfl) ?_
      refine lv_aload_n cx.1 cx.2.1 dX4_openUnit_26 rfl (lv_at hl 0 rfl) ?_
      refine cd_gI (o := 4) (k := 9) (f := 137) hj cx hw hic4 rfl ⟨by decide, rfl, by decide, rfl⟩ rfl (by decide) (List.mem_cons_of_mem _ cm_734) dX4_openUnit_27 ?_
      refine lv_aload_n cx.1 cx.2.1 dX4_openUnit_30 rfl (lv_at hl 0 rfl) ?_
      refine cd_gO (o2 := 10) (e2 := 0) (o := 4) (k := 0) (f := 128) hj cx hw hic4 rfl ⟨by decide, rfl, by decide, rfl⟩ rfl (by decide) ⟨rfl, rfl⟩ (List.mem_cons_of_mem _ cm_658) dX4_openUnit_31 ?_
      refine cd_gI (o := 10) (k := 9) (f := 329) hj cx hw hic10 rfl ⟨by decide, rfl, by decide, rfl⟩ rfl (by decide) (List.mem_cons_of_mem _ cm_659) dX4_openUnit_34 ?_
      obtain ⟨p4, e_p4, h⟩ := md_ob h
      refine hp_callVr (As := [.int l1, .int (cI p2.2.1 137 0), .int (cI p2.2.1 329 0)]) (rest := []) cx hw (kc_X2_addUnit l D cA E _ ad _ hj oq sgq sgv hE n p2.2.1 l1 ((cI p2.2.1 137 0)) ((cI p2.2.1 329 0)) p4 e_p4) (cwV 3 cx.2.2.2.2.2.1 (cd_giV cm_745 cm_746 cm_747 cm_167 cm_748) rfl rfl rfl hdc_X2_addUnit ⟨Nat.le_of_ble_eq_true rfl, Nat.le_of_ble_eq_true rfl⟩) (cd_atO hj (by decide) (by decide)) rfl rfl hl.1 rfl (Nat.le_of_ble_eq_true rfl) dX4_openUnit_37 ⟨by (try dsimp only); omega, by (try dsimp only); omega⟩ (fun r u H locs hp hw => ?_)
      obtain ⟨⟨hb_p4, rfl⟩, ca, hj, rfl⟩ := hp
      refine lv_astore_n (lv' := [(2, .ref (ad 9 p4.1)), (0, .ref (ad 4 0)), (1, .int l1)]) cx.1 cx.2.1 dX4_openUnit_40 rfl hl (by decide) rfl (fun ls hl => ?_)
      refine lv_aload_n cx.1 cx.2.1 dX4_openUnit_41 rfl (lv_at hl 0 rfl) ?_
      refine lv_iload_n cx.1 cx.2.1 dX4_openUnit_42 rfl (lv_at hl 2 rfl) ?_
      refine lv_if_ne (tgt := 53) cx.1 cx.2.1 dX4_openUnit_43 (by decide) (fun c43 => ?_) (fun c43 => ?_)
      · have h := md_in c43 h
        refine lv_aload_n cx.1 cx.2.1 dX4_openUnit_53 rfl (lv_at hl 1 rfl) ?_
        obtain ⟨u5, e_u5, h⟩ := md_ob h
        have hb_u5 : u5 < 60 := (cd_dps e_u5).2
        refine cd_gP (o2 := 9) (u := u5) (o := 4) (k := 8) (f := 136) hj cx hw hic4 rfl ⟨by decide, rfl, by decide, rfl⟩ rfl (by decide) rfl e_u5 (List.mem_cons_of_mem _ cm_749) dX4_openUnit_54 ?_
        refine cd_gI (o := 9) (k := 0) (f := 288) hj cx hw hic9 rfl ⟨by decide, rfl, by decide, rfl⟩ rfl (show _ < 60 by omega) (List.mem_cons_of_mem _ cm_750) dX4_openUnit_57 ?_
        exact J60 _ hj p4.2 (p2.2.2) (p4.1) ((cI p4.2 288 u5)) (p4.1) _ _ _ (by omega) (by omega) (by omega) (by omega) (by omega) (by omega) h hw (lv_sub hl [0] rfl)
      · have h := md_ip c43 h
        refine lv_aload_n cx.1 cx.2.1 dX4_openUnit_46 rfl (lv_at hl 0 rfl) ?_
        refine cd_gI (o := 9) (k := 0) (f := 288) hj cx hw hic9 rfl ⟨by decide, rfl, by decide, rfl⟩ rfl (show _ < 60 by omega) (List.mem_cons_of_mem _ cm_750) dX4_openUnit_47 ?_
        refine lv_goto (tgt := 60) cx.1 cx.2.1 dX4_openUnit_50 (by decide) ?_
        exact J60 _ hj p4.2 (p2.2.2) (p4.1) ((cI p4.2 288 (p4.1))) (p4.1) _ _ _ (by omega) (by omega) (by omega) (by omega) (by omega) (by omega) h hw (lv_sub hl [0] rfl)
  refine lv_aload_n cx.1 cx.2.1 dX4_openUnit_0 rfl (lv_at hl 0 rfl) ?_
  refine lv_aload_n cx.1 cx.2.1 dX4_openUnit_1 rfl (lv_at hl 0 rfl) ?_
  refine cd_gO (o2 := 2) (e2 := 0) (o := 4) (k := 1) (f := 129) hj cx hw hic4 rfl ⟨by decide, rfl, by decide, rfl⟩ rfl (by decide) ⟨rfl, rfl⟩ (List.mem_cons_of_mem _ cm_722) dX4_openUnit_2 ?_
  refine cd_gI (o := 2) (k := 2) (f := 66) hj cx hw hic2 rfl ⟨by decide, rfl, by decide, rfl⟩ rfl (by decide) (List.mem_cons_of_mem _ cm_744) dX4_openUnit_5 ?_
  refine lv_bipush (v := 60) cx.1 cx.2.1 dX4_openUnit_8 (by decide) ?_
  refine lv_icmp_ge (tgt := 17) cx.1 cx.2.1 dX4_openUnit_10 (by decide) (fun c10 => ?_) (fun c10 => ?_)
  · have h := md_ip c10 h
    refine lv_iconst (v := 0) cx.1 cx.2.1 dX4_openUnit_17 (by decide) ?_
    exact J18 _ hj σ0 b0 a1 0 _ _ _ (by omega) (by omega) (by omega) (by omega) h hw (lv_sub hl [0, 1] rfl)
  · have h := md_in c10 h
    refine lv_iconst (v := 1) cx.1 cx.2.1 dX4_openUnit_13 (by decide) ?_
    refine lv_goto (tgt := 18) cx.1 cx.2.1 dX4_openUnit_14 (by decide) ?_
    exact J18 _ hj σ0 b0 a1 1 _ _ _ (by omega) (by omega) (by omega) (by omega) h hw (lv_sub hl [0, 1] rfl)
set_option maxHeartbeats 4000000 in
set_option maxRecDepth 100000 in
theorem kx_X4_part (l : Launch) (D : va_G) (cA : Nat → ClassId) (E : hp_N) (sz : Nat) (ad : Nat → Nat → Nat) (ca0 : Nat → Nat) (hj : cd_inj ad ca0) (oq sgq sgv : Nat) (hE : cd_E E oq sgq sgv) (hX : cd_X l E) (n : Nat) (σ0 : cd_S) (b0 : cd_B) (p : (cd_S × cd_B)) (h : f_X4_part n σ0 b0 = some (Sum.inr p)) : (p.2.1 ≤ b0.1 ∧ p.2.2 ≤ b0.2) ∧ vx_Met l yX4_part (Cond.code yX4_part cX4_part 1 none :: v_CLS) ({ frames := 14, cells := b0.1 - p.2.1, slots := b0.2 - p.2.2, locals := 243 }) (hp_Pc D vwCl (hp_Tl cA) E sz (cd_pic cA ad ca0 σ0) [.ref (ad 4 0)]) (hp_Qv D vwCl (hp_Tl cA) sz (cd_pic cA ad ca0 σ0) (fun _ => False)) (hp_XQ D vwCl (hp_Tl cA) "java/lang/IllegalArgumentException" (cd_pic cA ad ca0 σ0) sz (fun u => ∃ ca1, cd_inj ad ca1 ∧ u = cd_pic cA ad ca1 p.1)) (b0.1 - p.2.1) (b0.2 - p.2.2) (hp_A (cd_pic cA ad ca0 σ0) sz) := by
  obtain ⟨hm0, hn0, h⟩ := cd_cks h
  have hM0 : p.2.1 ≤ b0.1 ∧ p.2.2 ≤ b0.2 := ⟨hm0, hn0⟩
  refine ⟨hM0, ?_⟩
  refine hp_ofWx (cc := cX4_part) (maxL := 1) (ret := none) (by decide) rfl (Nat.le_of_ble_eq_true rfl) ?_
  intro pp ee ss mm bb mt cd ls cx hsz hw hl hno
  have hl : lv_has ls 1 [(0, .ref (ad 4 0))] := hl
  refine W.widen (k := b0.1 - b0.1) (n := b0.2 - b0.2) (Nat.zero_le _) (Nat.zero_le _) ?_
  have J16 : ∀ (ca : Nat → Nat) (hj : cd_inj ad ca) (σ : cd_S) (b : cd_B) (t0 : Int32) (H : Heap) (locs : List Loc) (ls : Array Slot), b.1 ≤ b0.1 → b.2 ≤ b0.2 → p.2.1 ≤ b.1 → p.2.2 ≤ b.2 → f_X4_part_J16 n σ b t0 = some (Sum.inr p) → hp_w D vwCl (hp_Tl cA) E (hp_A (cd_pic cA ad ca0 σ0) sz) ss H locs (cd_pic cA ad ca σ) → lv_has ls 1 [(0, .ref (ad 4 0))] → W pp l ee ({ frames := 14, cells := b0.1 - p.2.1, slots := b0.2 - p.2.2, locals := 243 }) ss mm [.ref (ad 4 0)].toArray bb mt cd H locs (b0.1 - b.1) (b0.2 - b.2) (vx_MQ bb (hp_Qv D vwCl (hp_Tl cA) sz (cd_pic cA ad ca0 σ0) (fun _ => False)) (hp_XQ D vwCl (hp_Tl cA) "java/lang/IllegalArgumentException" (cd_pic cA ad ca0 σ0) sz (fun u => ∃ ca1, cd_inj ad ca1 ∧ u = cd_pic cA ad ca1 p.1)) [.ref (ad 4 0)].toArray ss (b0.1 - p.2.1) (b0.2 - p.2.2) (hp_A (cd_pic cA ad ca0 σ0) sz)) (F0 mm 16 ls [.int t0, .ref (ad 4 0)]) := by
    intro ca hj σ b t0 H locs ls hb1 hb2 hf1 hf2 h hw hl
    obtain ⟨q1, e_q1, h⟩ := md_ob h
    obtain ⟨hm2, hn2, h⟩ := cd_cks h
    have hM2 : p.2.1 ≤ (Sum.elim (fun (p : Int32 × cd_S × cd_B) => p.2.2) (fun (t : cd_S × cd_B) => t.2) q1).1 ∧ p.2.2 ≤ (Sum.elim (fun (p : Int32 × cd_S × cd_B) => p.2.2) (fun (t : cd_S × cd_B) => t.2) q1).2 := ⟨hm2, hn2⟩
    cases q1 with
    | inr t1 =>
      obtain rfl : t1 = p := Sum.inr.inj (Option.some.inj h)
      have hlx1 := (kx_X4_room l D cA E sz ad _ hj oq sgq sgv hE hX n σ b t0 t1 e_q1).1
      exact hp_callQv (As := [.int t0]) (rest := []) cx hw hno ((kx_X4_room l D cA E _ ad _ hj oq sgq sgv hE hX n σ b t0 t1 e_q1).2) (cwV 1 cx.2.2.2.2.2.1 (cd_giV cm_691 cm_692 cm_693 cm_663 cm_694) rfl rfl rfl hdc_X4_room ⟨Nat.le_of_ble_eq_true rfl, Nat.le_of_ble_eq_true rfl⟩) (cd_atO hj (by decide) (by decide)) rfl rfl hl.1 rfl (Nat.le_of_ble_eq_true rfl) dX4_part_16 ⟨by (try dsimp only); omega, by (try dsimp only); omega⟩ (by omega) (by omega)
    | inl p1 =>
      have hle1 := (kc_X4_room l D cA E sz ad _ hj oq sgq sgv hE n σ b t0 p1 e_q1).1
      have hM10002 : p.2.1 ≤ p1.2.2.1 ∧ p.2.2 ≤ p1.2.2.2 := hM2
      have h := cd_inl h
      refine hp_callVv (As := [.int t0]) (rest := []) cx hw ((kc_X4_room l D cA E _ ad _ hj oq sgq sgv hE n σ b t0 p1 e_q1).2) (cwV 1 cx.2.2.2.2.2.1 (cd_giV cm_691 cm_692 cm_693 cm_663 cm_694) rfl rfl rfl hdc_X4_room ⟨Nat.le_of_ble_eq_true rfl, Nat.le_of_ble_eq_true rfl⟩) (cd_atO hj (by decide) (by decide)) rfl rfl hl.1 rfl (Nat.le_of_ble_eq_true rfl) dX4_part_16 ⟨by (try dsimp only); omega, by (try dsimp only); omega⟩ (fun u H locs hp hw => ?_)
      obtain ⟨ca, hj, rfl⟩ := hp
      refine W.widen (k := b0.1 - p1.2.2.1) (n := b0.2 - p1.2.2.2) (by omega) (by omega) ?_
      refine lv_aload_n cx.1 cx.2.1 dX4_part_19 rfl (lv_at hl 0 rfl) ?_
      refine lv_dup cx.1 cx.2.1 dX4_part_20 rfl ?_
      refine cd_gI (o := 4) (k := 10) (f := 138) hj cx hw hic4 rfl ⟨by decide, rfl, by decide, rfl⟩ rfl (by decide) (List.mem_cons_of_mem _ cm_727) dX4_part_21 ?_
      refine lv_iconst (v := 1) cx.1 cx.2.1 dX4_part_24 (by decide) ?_
      refine lv_iadd cx.1 cx.2.1 dX4_part_25 ?_
      obtain ⟨σ3, e_σ3, h⟩ := md_ob h
      refine cd_pI (o := 4) (k := 10) (f := 138) hj cx hw hic4 rfl ⟨by decide, rfl, by decide, rfl⟩ tyX4_ok nmX4 rfl (by decide) rfl (List.mem_cons_of_mem _ cm_727) rfl e_σ3 dX4_part_26 (fun H locs hw => ?_)
      exact nomatch Option.some.inj h
  refine lv_aload_n cx.1 cx.2.1 dX4_part_0 rfl (lv_at hl 0 rfl) ?_
  refine lv_aload_n cx.1 cx.2.1 dX4_part_1 rfl (lv_at hl 0 rfl) ?_
  refine cd_gI (o := 4) (k := 10) (f := 138) hj cx hw hic4 rfl ⟨by decide, rfl, by decide, rfl⟩ rfl (by decide) (List.mem_cons_of_mem _ cm_727) dX4_part_2 ?_
  refine lv_sipush (v := 400) cx.1 cx.2.1 dX4_part_5 (by decide) ?_
  refine lv_icmp_ge (tgt := 15) cx.1 cx.2.1 dX4_part_8 (by decide) (fun c8 => ?_) (fun c8 => ?_)
  · have h := md_ip c8 h
    refine lv_iconst (v := 0) cx.1 cx.2.1 dX4_part_15 (by decide) ?_
    exact J16 _ hj σ0 b0 0 _ _ _ (by omega) (by omega) (by omega) (by omega) h hw (lv_sub hl [0] rfl)
  · have h := md_in c8 h
    refine lv_iconst (v := 1) cx.1 cx.2.1 dX4_part_11 (by decide) ?_
    refine lv_goto (tgt := 16) cx.1 cx.2.1 dX4_part_12 (by decide) ?_
    exact J16 _ hj σ0 b0 1 _ _ _ (by omega) (by omega) (by omega) (by omega) h hw (lv_sub hl [0] rfl)
set_option maxHeartbeats 4000000 in
set_option maxRecDepth 100000 in
theorem kx_X4_readArguments (l : Launch) (D : va_G) (cA : Nat → ClassId) (E : hp_N) (sz : Nat) (ad : Nat → Nat → Nat) (ca0 : Nat → Nat) (hj : cd_inj ad ca0) (oq sgq sgv : Nat) (hE : cd_E E oq sgq sgv) (hX : cd_X l E) (n d : Nat) (rec : cd_R) (in0 : ∀ (sz : Nat) (ca : Nat → Nat) (_ : cd_inj ad ca) (σ : cd_S) (b : cd_B) (a1 : Int32) (p : Int32 × cd_S × cd_B), rec 0 0 a1 0 σ b = some (Sum.inl p) → (p.2.2.1 ≤ b.1 ∧ p.2.2.2 ≤ b.2) ∧ Met l yX4_readExpression (Cond.code yX4_readExpression cX4_readExpression 2 none :: v_CLS) ({ frames := d + 16, cells := b.1 - p.2.2.1, slots := b.2 - p.2.2.2, locals := 26 * d + 286 }) (hp_Pc D vwCl (hp_Tl cA) E sz (cd_pic cA ad ca σ) [.ref (ad 4 0), .int a1]) (hp_Qv D vwCl (hp_Tl cA) sz (cd_pic cA ad ca σ) (fun u => ∃ ca1, cd_inj ad ca1 ∧ u = cd_pic cA ad ca1 p.2.1)) (b.1 - p.2.2.1) (b.2 - p.2.2.2) (hp_A (cd_pic cA ad ca σ) sz)) (ix0 : ∀ (sz : Nat) (ca : Nat → Nat) (_ : cd_inj ad ca) (σ : cd_S) (b : cd_B) (a1 : Int32) (p : cd_S × cd_B), rec 0 0 a1 0 σ b = some (Sum.inr p) → (p.2.1 ≤ b.1 ∧ p.2.2 ≤ b.2) ∧ vx_Met l yX4_readExpression (Cond.code yX4_readExpression cX4_readExpression 2 none :: v_CLS) ({ frames := d + 16, cells := b.1 - p.2.1, slots := b.2 - p.2.2, locals := 26 * d + 286 }) (hp_Pc D vwCl (hp_Tl cA) E sz (cd_pic cA ad ca σ) [.ref (ad 4 0), .int a1]) (hp_Qv D vwCl (hp_Tl cA) sz (cd_pic cA ad ca σ) (fun _ => False)) (hp_XQ D vwCl (hp_Tl cA) "java/lang/IllegalArgumentException" (cd_pic cA ad ca σ) sz (fun u => ∃ ca1, cd_inj ad ca1 ∧ u = cd_pic cA ad ca1 p.1)) (b.1 - p.2.1) (b.2 - p.2.2) (hp_A (cd_pic cA ad ca σ) sz)) (σ0 : cd_S) (b0 : cd_B) (a1 : Int32) (p : (cd_S × cd_B)) (h : f_X4_readArguments n rec σ0 b0 a1 = some (Sum.inr p)) : (p.2.1 ≤ b0.1 ∧ p.2.2 ≤ b0.2) ∧ vx_Met l yX4_readArguments (Cond.code yX4_readArguments cX4_readArguments 5 (some .int) :: v_CLS) ({ frames := (d + 1) + 16, cells := b0.1 - p.2.1, slots := b0.2 - p.2.2, locals := 26 * (d + 1) + 286 }) (hp_Pc D vwCl (hp_Tl cA) E sz (cd_pic cA ad ca0 σ0) [.ref (ad 4 0), .int a1]) (hp_Qv D vwCl (hp_Tl cA) sz (cd_pic cA ad ca0 σ0) (fun _ => False)) (hp_XQ D vwCl (hp_Tl cA) "java/lang/IllegalArgumentException" (cd_pic cA ad ca0 σ0) sz (fun u => ∃ ca1, cd_inj ad ca1 ∧ u = cd_pic cA ad ca1 p.1)) (b0.1 - p.2.1) (b0.2 - p.2.2) (hp_A (cd_pic cA ad ca0 σ0) sz) := by
  obtain ⟨hm0, hn0, h⟩ := cd_cks h
  have hM0 : p.2.1 ≤ b0.1 ∧ p.2.2 ≤ b0.2 := ⟨hm0, hn0⟩
  refine ⟨hM0, ?_⟩
  refine hp_ofWx (cc := cX4_readArguments) (maxL := 5) (ret := (some .int)) (by decide) rfl (Nat.le_of_ble_eq_true rfl) ?_
  intro pp ee ss mm bb mt cd ls cx hsz hw hl hno
  have hl : lv_has ls 5 [(0, .ref (ad 4 0)), (1, .int a1)] := hl
  refine W.widen (k := b0.1 - b0.1) (n := b0.2 - b0.2) (Nat.zero_le _) (Nat.zero_le _) ?_
  have J26 : ∀ (ca : Nat → Nat) (hj : cd_inj ad ca) (σ : cd_S) (b : cd_B) (l1 : Int32) (l2 : Int32) (t0 : Int32) (H : Heap) (locs : List Loc) (ls : Array Slot), b.1 ≤ b0.1 → b.2 ≤ b0.2 → p.2.1 ≤ b.1 → p.2.2 ≤ b.2 → f_X4_readArguments_J26 n rec σ b l1 l2 t0 = some (Sum.inr p) → hp_w D vwCl (hp_Tl cA) E (hp_A (cd_pic cA ad ca0 σ0) sz) ss H locs (cd_pic cA ad ca σ) → lv_has ls 5 [(0, .ref (ad 4 0)), (1, .int l1), (2, .int l2)] → W pp l ee ({ frames := (d + 1) + 16, cells := b0.1 - p.2.1, slots := b0.2 - p.2.2, locals := 26 * (d + 1) + 286 }) ss mm [.ref (ad 4 0), .int a1].toArray bb mt cd H locs (b0.1 - b.1) (b0.2 - b.2) (vx_MQ bb (hp_Qv D vwCl (hp_Tl cA) sz (cd_pic cA ad ca0 σ0) (fun _ => False)) (hp_XQ D vwCl (hp_Tl cA) "java/lang/IllegalArgumentException" (cd_pic cA ad ca0 σ0) sz (fun u => ∃ ca1, cd_inj ad ca1 ∧ u = cd_pic cA ad ca1 p.1)) [.ref (ad 4 0), .int a1].toArray ss (b0.1 - p.2.1) (b0.2 - p.2.2) (hp_A (cd_pic cA ad ca0 σ0) sz)) (F0 mm 26 ls [.int t0]) := by
    intro ca hj σ b l1 l2 t0 H locs ls hb1 hb2 hf1 hf2 h hw hl
    refine lv_istore_n (lv' := [(3, .int t0), (0, .ref (ad 4 0)), (1, .int l1), (2, .int l2)]) cx.1 cx.2.1 dX4_readArguments_26 rfl hl (by decide) rfl (fun ls hl => ?_)
    refine lv_iconst (v := 0) cx.1 cx.2.1 dX4_readArguments_27 (by decide) ?_
    refine lv_istore (lv' := [(4, .int 0), (3, .int t0), (0, .ref (ad 4 0)), (1, .int l1), (2, .int l2)]) cx.1 cx.2.1 dX4_readArguments_28 hl (by decide) rfl (fun ls hl => ?_)
    have L30 : ∀ (j : Nat) (ca : Nat → Nat) (hj : cd_inj ad ca) (σ : cd_S) (b : cd_B) (l1 : Int32) (l2 : Int32) (l3 : Int32) (l4 : Int32) (q : (((Int32 × cd_S × cd_B) ⊕ (cd_S × cd_B)) ⊕ (cd_S × cd_B × Int32 × Int32 × Int32))) (H : Heap) (locs : List Loc) (ls : Array Slot), b.1 ≤ b0.1 → b.2 ≤ b0.2 → p.2.1 ≤ b.1 → p.2.2 ≤ b.2 → p.2.1 ≤ (Sum.elim (fun (q : ((Int32 × cd_S × cd_B) ⊕ (cd_S × cd_B))) => Sum.elim (fun (p : (Int32 × cd_S × cd_B)) => p.2.2) (fun (t : cd_S × cd_B) => t.2) q) (fun (q : cd_S × cd_B × Int32 × Int32 × Int32) => q.2.1) q).1 → p.2.2 ≤ (Sum.elim (fun (q : ((Int32 × cd_S × cd_B) ⊕ (cd_S × cd_B))) => Sum.elim (fun (p : (Int32 × cd_S × cd_B)) => p.2.2) (fun (t : cd_S × cd_B) => t.2) q) (fun (q : cd_S × cd_B × Int32 × Int32 × Int32) => q.2.1) q).2 → f_X4_readArguments_L30 n rec l1 j σ b l2 l3 l4 = some q → hp_w D vwCl (hp_Tl cA) E (hp_A (cd_pic cA ad ca0 σ0) sz) ss H locs (cd_pic cA ad ca σ) → lv_has ls 5 [(0, .ref (ad 4 0)), (1, .int l1), (2, .int l2), (3, .int l3), (4, .int l4)] → (∀ t, q = Sum.inr t → (∀ (ca : Nat → Nat) (hj : cd_inj ad ca) (H : Heap) (locs : List Loc) (ls : Array Slot), t.2.1.1 ≤ b0.1 → t.2.1.2 ≤ b0.2 → hp_w D vwCl (hp_Tl cA) E (hp_A (cd_pic cA ad ca0 σ0) sz) ss H locs (cd_pic cA ad ca t.1) → lv_has ls 5 [(0, .ref (ad 4 0)), (2, .int t.2.2.1)] → W pp l ee ({ frames := (d + 1) + 16, cells := b0.1 - p.2.1, slots := b0.2 - p.2.2, locals := 26 * (d + 1) + 286 }) ss mm [.ref (ad 4 0), .int a1].toArray bb mt cd H locs (b0.1 - t.2.1.1) (b0.2 - t.2.1.2) (vx_MQ bb (hp_Qv D vwCl (hp_Tl cA) sz (cd_pic cA ad ca0 σ0) (fun _ => False)) (hp_XQ D vwCl (hp_Tl cA) "java/lang/IllegalArgumentException" (cd_pic cA ad ca0 σ0) sz (fun u => ∃ ca1, cd_inj ad ca1 ∧ u = cd_pic cA ad ca1 p.1)) [.ref (ad 4 0), .int a1].toArray ss (b0.1 - p.2.1) (b0.2 - p.2.2) (hp_A (cd_pic cA ad ca0 σ0) sz)) (F0 mm 110 ls []))) → (∀ r, q = Sum.inl r → r = Sum.inr p) → W pp l ee ({ frames := (d + 1) + 16, cells := b0.1 - p.2.1, slots := b0.2 - p.2.2, locals := 26 * (d + 1) + 286 }) ss mm [.ref (ad 4 0), .int a1].toArray bb mt cd H locs (b0.1 - b.1) (b0.2 - b.2) (vx_MQ bb (hp_Qv D vwCl (hp_Tl cA) sz (cd_pic cA ad ca0 σ0) (fun _ => False)) (hp_XQ D vwCl (hp_Tl cA) "java/lang/IllegalArgumentException" (cd_pic cA ad ca0 σ0) sz (fun u => ∃ ca1, cd_inj ad ca1 ∧ u = cd_pic cA ad ca1 p.1)) [.ref (ad 4 0), .int a1].toArray ss (b0.1 - p.2.1) (b0.2 - p.2.2) (hp_A (cd_pic cA ad ca0 σ0) sz)) (F0 mm 30 ls []) := by
      intro j
      induction j with
      | zero => intro ca hj σ b l1 l2 l3 l4 q H locs ls hb1 hb2 hf1 hf2 hq1 hq2 h; exact nomatch h
      | succ j ih =>
        intro ca hj σ b l1 l2 l3 l4 q H locs ls hb1 hb2 hf1 hf2 hq1 hq2 h hw hl K KR
        unfold f_X4_readArguments_L30 at h
        have J104 : ∀ (ca : Nat → Nat) (hj : cd_inj ad ca) (σ : cd_S) (b : cd_B) (l2 : Int32) (l3 : Int32) (l4 : Int32) (H : Heap) (locs : List Loc) (ls : Array Slot), b.1 ≤ b0.1 → b.2 ≤ b0.2 → p.2.1 ≤ b.1 → p.2.2 ≤ b.2 → f_X4_readArguments_J104 n rec l1 (f_X4_readArguments_L30 n rec l1 j) σ b l2 l3 l4 = some q → hp_w D vwCl (hp_Tl cA) E (hp_A (cd_pic cA ad ca0 σ0) sz) ss H locs (cd_pic cA ad ca σ) → lv_has ls 5 [(0, .ref (ad 4 0)), (1, .int l1), (2, .int l2), (3, .int l3), (4, .int l4)] → W pp l ee ({ frames := (d + 1) + 16, cells := b0.1 - p.2.1, slots := b0.2 - p.2.2, locals := 26 * (d + 1) + 286 }) ss mm [.ref (ad 4 0), .int a1].toArray bb mt cd H locs (b0.1 - b.1) (b0.2 - b.2) (vx_MQ bb (hp_Qv D vwCl (hp_Tl cA) sz (cd_pic cA ad ca0 σ0) (fun _ => False)) (hp_XQ D vwCl (hp_Tl cA) "java/lang/IllegalArgumentException" (cd_pic cA ad ca0 σ0) sz (fun u => ∃ ca1, cd_inj ad ca1 ∧ u = cd_pic cA ad ca1 p.1)) [.ref (ad 4 0), .int a1].toArray ss (b0.1 - p.2.1) (b0.2 - p.2.2) (hp_A (cd_pic cA ad ca0 σ0) sz)) (F0 mm 104 ls []) := by
          intro ca hj σ b l2 l3 l4 H locs ls hb1 hb2 hf1 hf2 h hw hl
          refine lv_iinc (v := (l4 + 1)) (lv' := [(4, .int (l4 + 1)), (0, .ref (ad 4 0)), (1, .int l1), (2, .int l2), (3, .int l3)]) cx.1 cx.2.1 dX4_readArguments_104 hl (k := 4) rfl rfl (by decide) rfl (fun ls hl => ?_)
          refine lv_goto (tgt := 30) cx.1 cx.2.1 dX4_readArguments_107 (by decide) ?_
          exact ih _ hj σ b l1 l2 l3 ((l4 + 1)) q _ _ _ (by omega) (by omega) (by omega) (by omega) hq1 hq2 h hw (lv_sub hl [1, 2, 3, 4, 0] rfl) K KR
        have J92 : ∀ (ca : Nat → Nat) (hj : cd_inj ad ca) (σ : cd_S) (b : cd_B) (l2 : Int32) (l4 : Int32) (t0 : Int32) (H : Heap) (locs : List Loc) (ls : Array Slot), b.1 ≤ b0.1 → b.2 ≤ b0.2 → p.2.1 ≤ b.1 → p.2.2 ≤ b.2 → f_X4_readArguments_J92 n rec l1 (f_X4_readArguments_L30 n rec l1 j) σ b l2 l4 t0 = some q → hp_w D vwCl (hp_Tl cA) E (hp_A (cd_pic cA ad ca0 σ0) sz) ss H locs (cd_pic cA ad ca σ) → lv_has ls 5 [(0, .ref (ad 4 0)), (1, .int l1), (2, .int l2), (4, .int l4)] → W pp l ee ({ frames := (d + 1) + 16, cells := b0.1 - p.2.1, slots := b0.2 - p.2.2, locals := 26 * (d + 1) + 286 }) ss mm [.ref (ad 4 0), .int a1].toArray bb mt cd H locs (b0.1 - b.1) (b0.2 - b.2) (vx_MQ bb (hp_Qv D vwCl (hp_Tl cA) sz (cd_pic cA ad ca0 σ0) (fun _ => False)) (hp_XQ D vwCl (hp_Tl cA) "java/lang/IllegalArgumentException" (cd_pic cA ad ca0 σ0) sz (fun u => ∃ ca1, cd_inj ad ca1 ∧ u = cd_pic cA ad ca1 p.1)) [.ref (ad 4 0), .int a1].toArray ss (b0.1 - p.2.1) (b0.2 - p.2.2) (hp_A (cd_pic cA ad ca0 σ0) sz)) (F0 mm 92 ls [.int t0]) := by
          intro ca hj σ b l2 l4 t0 H locs ls hb1 hb2 hf1 hf2 h hw hl
          refine lv_istore_n (lv' := [(3, .int t0), (0, .ref (ad 4 0)), (1, .int l1), (2, .int l2), (4, .int l4)]) cx.1 cx.2.1 dX4_readArguments_92 rfl hl (by decide) rfl (fun ls hl => ?_)
          refine lv_iload_n cx.1 cx.2.1 dX4_readArguments_93 rfl (lv_at hl 0 rfl) ?_
          refine lv_if_eq (tgt := 104) cx.1 cx.2.1 dX4_readArguments_94 (by decide) (fun c94 => ?_) (fun c94 => ?_)
          · have h := md_ip c94 h
            exact J104 _ hj σ b l2 t0 l4 _ _ _ (by omega) (by omega) (by omega) (by omega) h hw (lv_sub hl [1, 2, 3, 0, 4] rfl)
          · have h := md_in c94 h
            refine lv_aload_n cx.1 cx.2.1 dX4_readArguments_97 rfl (lv_at hl 1 rfl) ?_
            refine cd_gO (o2 := 10) (e2 := 0) (o := 4) (k := 0) (f := 128) hj cx hw hic4 rfl ⟨by decide, rfl, by decide, rfl⟩ rfl (by decide) ⟨rfl, rfl⟩ (List.mem_cons_of_mem _ cm_658) dX4_readArguments_98 ?_
            obtain ⟨p1, e_p1, h⟩ := md_ob h
            refine hp_callVv (As := []) (rest := []) cx hw (kc_X10_advance l D cA E _ ad _ hj oq sgq sgv hE n σ  p1 e_p1) (cwV 0 cx.2.2.2.2.2.1 (cd_giV cm_670 cm_671 cm_672 cm_301 cm_673) rfl rfl rfl hdc_X10_advance ⟨by (try dsimp only); omega, by (try dsimp only); omega⟩) (cd_atO hj (by decide) (by decide)) rfl rfl hl.1 rfl (Nat.le_of_ble_eq_true rfl) dX4_readArguments_101 ⟨by (try dsimp only); omega, by (try dsimp only); omega⟩ (fun u H locs hp hw => ?_)
            obtain ⟨ca, hj, rfl⟩ := hp
            exact J104 _ hj p1.2 b l2 t0 l4 _ _ _ (by omega) (by omega) (by omega) (by omega) h hw (lv_sub hl [1, 2, 3, 0, 4] rfl)
        have J62 : ∀ (ca : Nat → Nat) (hj : cd_inj ad ca) (σ : cd_S) (b : cd_B) (l2 : Int32) (l4 : Int32) (t0 : Int32) (H : Heap) (locs : List Loc) (ls : Array Slot), b.1 ≤ b0.1 → b.2 ≤ b0.2 → p.2.1 ≤ b.1 → p.2.2 ≤ b.2 → f_X4_readArguments_J62 n rec l1 (f_X4_readArguments_L30 n rec l1 j) σ b l2 l4 t0 = some q → hp_w D vwCl (hp_Tl cA) E (hp_A (cd_pic cA ad ca0 σ0) sz) ss H locs (cd_pic cA ad ca σ) → lv_has ls 5 [(0, .ref (ad 4 0)), (1, .int l1), (2, .int l2), (4, .int l4)] → W pp l ee ({ frames := (d + 1) + 16, cells := b0.1 - p.2.1, slots := b0.2 - p.2.2, locals := 26 * (d + 1) + 286 }) ss mm [.ref (ad 4 0), .int a1].toArray bb mt cd H locs (b0.1 - b.1) (b0.2 - b.2) (vx_MQ bb (hp_Qv D vwCl (hp_Tl cA) sz (cd_pic cA ad ca0 σ0) (fun _ => False)) (hp_XQ D vwCl (hp_Tl cA) "java/lang/IllegalArgumentException" (cd_pic cA ad ca0 σ0) sz (fun u => ∃ ca1, cd_inj ad ca1 ∧ u = cd_pic cA ad ca1 p.1)) [.ref (ad 4 0), .int a1].toArray ss (b0.1 - p.2.1) (b0.2 - p.2.2) (hp_A (cd_pic cA ad ca0 σ0) sz)) (F0 mm 62 ls [.int t0, .ref (ad 4 0)]) := by
          intro ca hj σ b l2 l4 t0 H locs ls hb1 hb2 hf1 hf2 h hw hl
          obtain ⟨q2, e_q2, h⟩ := md_ob h
          obtain ⟨hm3, hn3, h⟩ := cd_cks h
          have hM3 : p.2.1 ≤ (Sum.elim (fun (p : Int32 × cd_S × cd_B) => p.2.2) (fun (t : cd_S × cd_B) => t.2) q2).1 ∧ p.2.2 ≤ (Sum.elim (fun (p : Int32 × cd_S × cd_B) => p.2.2) (fun (t : cd_S × cd_B) => t.2) q2).2 := ⟨Nat.le_trans hq1 hm3, Nat.le_trans hq2 hn3⟩
          cases q2 with
          | inr t2 =>
            obtain rfl : t2 = p := Sum.inr.inj (KR _ (Option.some.inj h).symm)
            have hlx2 := (kx_X4_room l D cA E sz ad _ hj oq sgq sgv hE hX n σ b t0 t2 e_q2).1
            exact hp_callQv (As := [.int t0]) (rest := []) cx hw hno ((kx_X4_room l D cA E _ ad _ hj oq sgq sgv hE hX n σ b t0 t2 e_q2).2) (cwV 1 cx.2.2.2.2.2.1 (cd_giV cm_691 cm_692 cm_693 cm_663 cm_694) rfl rfl rfl hdc_X4_room ⟨by (try dsimp only); omega, by (try dsimp only); omega⟩) (cd_atO hj (by decide) (by decide)) rfl rfl hl.1 rfl (Nat.le_of_ble_eq_true rfl) dX4_readArguments_62 ⟨by (try dsimp only); omega, by (try dsimp only); omega⟩ (by omega) (by omega)
          | inl p2 =>
            have hle2 := (kc_X4_room l D cA E sz ad _ hj oq sgq sgv hE n σ b t0 p2 e_q2).1
            have hM10003 : p.2.1 ≤ p2.2.2.1 ∧ p.2.2 ≤ p2.2.2.2 := hM3
            have h := cd_inl h
            refine hp_callVv (As := [.int t0]) (rest := []) cx hw ((kc_X4_room l D cA E _ ad _ hj oq sgq sgv hE n σ b t0 p2 e_q2).2) (cwV 1 cx.2.2.2.2.2.1 (cd_giV cm_691 cm_692 cm_693 cm_663 cm_694) rfl rfl rfl hdc_X4_room ⟨by (try dsimp only); omega, by (try dsimp only); omega⟩) (cd_atO hj (by decide) (by decide)) rfl rfl hl.1 rfl (Nat.le_of_ble_eq_true rfl) dX4_readArguments_62 ⟨by (try dsimp only); omega, by (try dsimp only); omega⟩ (fun u H locs hp hw => ?_)
            obtain ⟨ca, hj, rfl⟩ := hp
            refine W.widen (k := b0.1 - p2.2.2.1) (n := b0.2 - p2.2.2.2) (by omega) (by omega) ?_
            refine lv_aload_n cx.1 cx.2.1 dX4_readArguments_65 rfl (lv_at hl 0 rfl) ?_
            refine lv_iload_n cx.1 cx.2.1 dX4_readArguments_66 rfl (lv_at hl 1 rfl) ?_
            refine lv_iconst (v := 1) cx.1 cx.2.1 dX4_readArguments_67 (by decide) ?_
            refine lv_iadd cx.1 cx.2.1 dX4_readArguments_68 ?_
            obtain ⟨q4, e_q4, h⟩ := md_ob h
            obtain ⟨hm5, hn5, h⟩ := cd_cks h
            have hM5 : p.2.1 ≤ (Sum.elim (fun (p : Int32 × cd_S × cd_B) => p.2.2) (fun (t : cd_S × cd_B) => t.2) q4).1 ∧ p.2.2 ≤ (Sum.elim (fun (p : Int32 × cd_S × cd_B) => p.2.2) (fun (t : cd_S × cd_B) => t.2) q4).2 := ⟨Nat.le_trans hq1 hm5, Nat.le_trans hq2 hn5⟩
            cases q4 with
            | inr t4 =>
              obtain rfl : t4 = p := Sum.inr.inj (KR _ (Option.some.inj h).symm)
              have hlx4 := (ix0 sz _ hj p2.2.1 (p2.2.2) ((l1 + 1)) t4 e_q4).1
              exact hp_callQv (As := [.int (l1 + 1)]) (rest := []) cx hw hno ((ix0 _ _ hj p2.2.1 (p2.2.2) ((l1 + 1)) t4 e_q4).2) (cwV 1 cx.2.2.2.2.2.1 (cd_giV cm_760 cm_761 cm_762 cm_663 cm_763) rfl rfl rfl hdc_X4_readExpression ⟨by (try dsimp only); omega, by (try dsimp only); omega⟩) (cd_atO hj (by decide) (by decide)) rfl rfl hl.1 rfl (Nat.le_of_ble_eq_true rfl) dX4_readArguments_69 ⟨by (try dsimp only); omega, by (try dsimp only); omega⟩ (by omega) (by omega)
            | inl p4 =>
              have hle4 := (in0 sz _ hj p2.2.1 (p2.2.2) ((l1 + 1)) p4 e_q4).1
              have hM10005 : p.2.1 ≤ p4.2.2.1 ∧ p.2.2 ≤ p4.2.2.2 := hM5
              have h := cd_inl h
              refine hp_callVv (As := [.int (l1 + 1)]) (rest := []) cx hw ((in0 _ _ hj p2.2.1 (p2.2.2) ((l1 + 1)) p4 e_q4).2) (cwV 1 cx.2.2.2.2.2.1 (cd_giV cm_760 cm_761 cm_762 cm_663 cm_763) rfl rfl rfl hdc_X4_readExpression ⟨by (try dsimp only); omega, by (try dsimp only); omega⟩) (cd_atO hj (by decide) (by decide)) rfl rfl hl.1 rfl (Nat.le_of_ble_eq_true rfl) dX4_readArguments_69 ⟨by (try dsimp only); omega, by (try dsimp only); omega⟩ (fun u H locs hp hw => ?_)
              obtain ⟨ca, hj, rfl⟩ := hp
              refine W.widen (k := b0.1 - p4.2.2.1) (n := b0.2 - p4.2.2.2) (by omega) (by omega) ?_
              refine lv_iinc (v := (l2 + 1)) (lv' := [(2, .int (l2 + 1)), (0, .ref (ad 4 0)), (1, .int l1), (4, .int l4)]) cx.1 cx.2.1 dX4_readArguments_72 hl (k := 2) rfl rfl (by decide) rfl (fun ls hl => ?_)
              refine lv_aload_n cx.1 cx.2.1 dX4_readArguments_75 rfl (lv_at hl 1 rfl) ?_
              refine cd_gO (o2 := 10) (e2 := 0) (o := 4) (k := 0) (f := 128) hj cx hw hic4 rfl ⟨by decide, rfl, by decide, rfl⟩ rfl (by decide) ⟨rfl, rfl⟩ (List.mem_cons_of_mem _ cm_658) dX4_readArguments_76 ?_
              refine cd_gI (o := 10) (k := 8) (f := 328) hj cx hw hic10 rfl ⟨by decide, rfl, by decide, rfl⟩ rfl (by decide) (List.mem_cons_of_mem _ cm_665) dX4_readArguments_79 ?_
              refine lv_bipush (v := 44) cx.1 cx.2.1 dX4_readArguments_82 (by decide) ?_
              refine lv_icmp_ne (tgt := 91) cx.1 cx.2.1 dX4_readArguments_84 (by decide) (fun c84 => ?_) (fun c84 => ?_)
              · have h := md_in c84 h
                refine lv_iconst (v := 0) cx.1 cx.2.1 dX4_readArguments_91 (by decide) ?_
                exact J92 _ hj p4.2.1 (p4.2.2) ((l2 + 1)) l4 0 _ _ _ (by omega) (by omega) (by omega) (by omega) h hw (lv_sub hl [1, 2, 0, 3] rfl)
              · have h := md_ip c84 h
                refine lv_iconst (v := 1) cx.1 cx.2.1 dX4_readArguments_87 (by decide) ?_
                refine lv_goto (tgt := 92) cx.1 cx.2.1 dX4_readArguments_88 (by decide) ?_
                exact J92 _ hj p4.2.1 (p4.2.2) ((l2 + 1)) l4 1 _ _ _ (by omega) (by omega) (by omega) (by omega) h hw (lv_sub hl [1, 2, 0, 3] rfl)
        refine lv_iload_n cx.1 cx.2.1 dX4_readArguments_30 rfl (lv_at hl 3 rfl) ?_
        refine lv_if_eq (tgt := 110) cx.1 cx.2.1 dX4_readArguments_31 (by decide) (fun c31 => ?_) (fun c31 => ?_)
        · have h := md_ip c31 h
          exact K _ (Option.some.inj h).symm _ hj _ _ _ (by (try dsimp only); omega) (by (try dsimp only); omega) hw (lv_sub hl [0, 2] rfl)
        · have h := md_in c31 h
          refine lv_iload cx.1 cx.2.1 dX4_readArguments_34 (lv_at hl 4 rfl) ?_
          refine lv_iconst (v := 3) cx.1 cx.2.1 dX4_readArguments_36 (by decide) ?_
          refine lv_icmp_gt (tgt := 110) cx.1 cx.2.1 dX4_readArguments_37 (by decide) (fun c37 => ?_) (fun c37 => ?_)
          · have h := md_ip c37 h
            exact K _ (Option.some.inj h).symm _ hj _ _ _ (by (try dsimp only); omega) (by (try dsimp only); omega) hw (lv_sub hl [0, 2] rfl)
          · have h := md_in c37 h
            refine lv_aload_n cx.1 cx.2.1 dX4_readArguments_40 rfl (lv_at hl 0 rfl) ?_
            refine lv_aload_n cx.1 cx.2.1 dX4_readArguments_41 rfl (lv_at hl 0 rfl) ?_
            refine cd_gO (o2 := 10) (e2 := 0) (o := 4) (k := 0) (f := 128) hj cx hw hic4 rfl ⟨by decide, rfl, by decide, rfl⟩ rfl (by decide) ⟨rfl, rfl⟩ (List.mem_cons_of_mem _ cm_658) dX4_readArguments_42 ?_
            obtain ⟨p6, e_p6, h⟩ := md_ob h
            refine hp_callVi (As := []) (rest := [.ref (ad 4 0)]) cx hw (kc_X10_beginsExpression l D cA E _ ad _ hj oq sgq sgv hE n σ  p6 e_p6) (cwV 0 cx.2.2.2.2.2.1 (cd_giV cm_756 cm_757 cm_758 cm_301 cm_759) rfl rfl rfl hdc_X10_beginsExpression ⟨by (try dsimp only); omega, by (try dsimp only); omega⟩) (cd_atO hj (by decide) (by decide)) rfl rfl hl.1 rfl (Nat.le_of_ble_eq_true rfl) dX4_readArguments_45 ⟨by (try dsimp only); omega, by (try dsimp only); omega⟩ (fun r u H locs hp hw => ?_)
            obtain ⟨rfl, ca, hj, rfl⟩ := hp
            obtain ⟨q7, e_q7, h⟩ := md_ob h
            obtain ⟨hm8, hn8, h⟩ := cd_cks h
            have hM8 : p.2.1 ≤ (Sum.elim (fun (p : Int32 × cd_S × cd_B) => p.2.2) (fun (t : cd_S × cd_B) => t.2) q7).1 ∧ p.2.2 ≤ (Sum.elim (fun (p : Int32 × cd_S × cd_B) => p.2.2) (fun (t : cd_S × cd_B) => t.2) q7).2 := ⟨Nat.le_trans hq1 hm8, Nat.le_trans hq2 hn8⟩
            cases q7 with
            | inr t7 =>
              obtain rfl : t7 = p := Sum.inr.inj (KR _ (Option.some.inj h).symm)
              have hlx7 := (kx_X4_need l D cA E sz ad _ hj oq sgq sgv hE hX n p6.2 b (p6.1) t7 e_q7).1
              exact hp_callQv (As := [.int p6.1]) (rest := []) cx hw hno ((kx_X4_need l D cA E _ ad _ hj oq sgq sgv hE hX n p6.2 b (p6.1) t7 e_q7).2) (cwV 1 cx.2.2.2.2.2.1 (cd_giV cm_666 cm_667 cm_668 cm_663 cm_669) rfl rfl rfl hdc_X4_need ⟨by (try dsimp only); omega, by (try dsimp only); omega⟩) (cd_atO hj (by decide) (by decide)) rfl rfl hl.1 rfl (Nat.le_of_ble_eq_true rfl) dX4_readArguments_48 ⟨by (try dsimp only); omega, by (try dsimp only); omega⟩ (by omega) (by omega)
            | inl p7 =>
              have hle7 := (kc_X4_need l D cA E sz ad _ hj oq sgq sgv hE n p6.2 b (p6.1) p7 e_q7).1
              have hM10008 : p.2.1 ≤ p7.2.2.1 ∧ p.2.2 ≤ p7.2.2.2 := hM8
              have h := cd_inl h
              refine hp_callVv (As := [.int p6.1]) (rest := []) cx hw ((kc_X4_need l D cA E _ ad _ hj oq sgq sgv hE n p6.2 b (p6.1) p7 e_q7).2) (cwV 1 cx.2.2.2.2.2.1 (cd_giV cm_666 cm_667 cm_668 cm_663 cm_669) rfl rfl rfl hdc_X4_need ⟨by (try dsimp only); omega, by (try dsimp only); omega⟩) (cd_atO hj (by decide) (by decide)) rfl rfl hl.1 rfl (Nat.le_of_ble_eq_true rfl) dX4_readArguments_48 ⟨by (try dsimp only); omega, by (try dsimp only); omega⟩ (fun u H locs hp hw => ?_)
              obtain ⟨ca, hj, rfl⟩ := hp
              refine W.widen (k := b0.1 - p7.2.2.1) (n := b0.2 - p7.2.2.2) (by omega) (by omega) ?_
              refine lv_aload_n cx.1 cx.2.1 dX4_readArguments_51 rfl (lv_at hl 0 rfl) ?_
              refine lv_iload_n cx.1 cx.2.1 dX4_readArguments_52 rfl (lv_at hl 2 rfl) ?_
              refine lv_iconst (v := 3) cx.1 cx.2.1 dX4_readArguments_53 (by decide) ?_
              refine lv_icmp_ge (tgt := 61) cx.1 cx.2.1 dX4_readArguments_54 (by decide) (fun c54 => ?_) (fun c54 => ?_)
              · have h := md_ip c54 h
                refine lv_iconst (v := 0) cx.1 cx.2.1 dX4_readArguments_61 (by decide) ?_
                exact J62 _ hj p7.2.1 (p7.2.2) l2 l4 0 _ _ _ (by omega) (by omega) (by omega) (by omega) h hw (lv_sub hl [0, 1, 2, 4] rfl)
              · have h := md_in c54 h
                refine lv_iconst (v := 1) cx.1 cx.2.1 dX4_readArguments_57 (by decide) ?_
                refine lv_goto (tgt := 62) cx.1 cx.2.1 dX4_readArguments_58 (by decide) ?_
                exact J62 _ hj p7.2.1 (p7.2.2) l2 l4 1 _ _ _ (by omega) (by omega) (by omega) (by omega) h hw (lv_sub hl [0, 1, 2, 4] rfl)
    obtain ⟨q9, e_q9, h⟩ := md_ob h
    obtain ⟨hm10, hn10, h⟩ := cd_cks h
    have hM10 : p.2.1 ≤ (Sum.elim (fun (q : ((Int32 × cd_S × cd_B) ⊕ (cd_S × cd_B))) => Sum.elim (fun (p : (Int32 × cd_S × cd_B)) => p.2.2) (fun (t : cd_S × cd_B) => t.2) q) (fun (q : cd_S × cd_B × Int32 × Int32 × Int32) => q.2.1) q9).1 ∧ p.2.2 ≤ (Sum.elim (fun (q : ((Int32 × cd_S × cd_B) ⊕ (cd_S × cd_B))) => Sum.elim (fun (p : (Int32 × cd_S × cd_B)) => p.2.2) (fun (t : cd_S × cd_B) => t.2) q) (fun (q : cd_S × cd_B × Int32 × Int32 × Int32) => q.2.1) q9).2 := ⟨hm10, hn10⟩
    refine L30 n _ hj σ b l1 l2 t0 0 q9 _ _ _ (by omega) (by omega) (by omega) (by omega) hM10.1 hM10.2 e_q9 hw (lv_sub hl [2, 3, 4, 1, 0] rfl) (fun t9 hq9 ca hj H locs ls hb1 hb2 hw hl => ?_) (fun r hr => by subst hr; exact Option.some.inj h)
    subst hq9
    have h := md_inr h
    have hS10 : p.2.1 ≤ t9.2.1.1 ∧ p.2.2 ≤ t9.2.1.2 := hM10
    refine lv_aload_n cx.1 cx.2.1 dX4_readArguments_110 rfl (lv_at hl 0 rfl) ?_
    refine lv_bipush (v := 41) cx.1 cx.2.1 dX4_readArguments_111 (by decide) ?_
    obtain ⟨q11, e_q11, h⟩ := md_ob h
    obtain ⟨hm12, hn12, h⟩ := cd_cks h
    have hM12 : p.2.1 ≤ (Sum.elim (fun (p : Int32 × cd_S × cd_B) => p.2.2) (fun (t : cd_S × cd_B) => t.2) q11).1 ∧ p.2.2 ≤ (Sum.elim (fun (p : Int32 × cd_S × cd_B) => p.2.2) (fun (t : cd_S × cd_B) => t.2) q11).2 := ⟨hm12, hn12⟩
    cases q11 with
    | inr t11 =>
      obtain rfl : t11 = p := Sum.inr.inj (Option.some.inj h)
      have hlx11 := (kx_X4_pass l D cA E sz ad _ hj oq sgq sgv hE hX n t9.1 (t9.2.1) (41 : Int32) t11 e_q11).1
      exact hp_callQv (As := [.int 41]) (rest := []) cx hw hno ((kx_X4_pass l D cA E _ ad _ hj oq sgq sgv hE hX n t9.1 (t9.2.1) (41 : Int32) t11 e_q11).2) (cwV 1 cx.2.2.2.2.2.1 (cd_giV cm_714 cm_715 cm_716 cm_663 cm_717) rfl rfl rfl hdc_X4_pass ⟨by (try dsimp only); omega, by (try dsimp only); omega⟩) (cd_atO hj (by decide) (by decide)) rfl rfl hl.1 rfl (Nat.le_of_ble_eq_true rfl) dX4_readArguments_113 ⟨by (try dsimp only); omega, by (try dsimp only); omega⟩ (by omega) (by omega)
    | inl p11 =>
      have hle11 := (kc_X4_pass l D cA E sz ad _ hj oq sgq sgv hE n t9.1 (t9.2.1) (41 : Int32) p11 e_q11).1
      have hM10012 : p.2.1 ≤ p11.2.2.1 ∧ p.2.2 ≤ p11.2.2.2 := hM12
      have h := cd_inl h
      refine hp_callVv (As := [.int 41]) (rest := []) cx hw ((kc_X4_pass l D cA E _ ad _ hj oq sgq sgv hE n t9.1 (t9.2.1) (41 : Int32) p11 e_q11).2) (cwV 1 cx.2.2.2.2.2.1 (cd_giV cm_714 cm_715 cm_716 cm_663 cm_717) rfl rfl rfl hdc_X4_pass ⟨by (try dsimp only); omega, by (try dsimp only); omega⟩) (cd_atO hj (by decide) (by decide)) rfl rfl hl.1 rfl (Nat.le_of_ble_eq_true rfl) dX4_readArguments_113 ⟨by (try dsimp only); omega, by (try dsimp only); omega⟩ (fun u H locs hp hw => ?_)
      obtain ⟨ca, hj, rfl⟩ := hp
      refine W.widen (k := b0.1 - p11.2.2.1) (n := b0.2 - p11.2.2.2) (by omega) (by omega) ?_
      refine lv_iload_n cx.1 cx.2.1 dX4_readArguments_116 rfl (lv_at hl 1 rfl) ?_
      exact nomatch Option.some.inj h
  refine lv_aload_n cx.1 cx.2.1 dX4_readArguments_0 rfl (lv_at hl 0 rfl) ?_
  refine cd_gO (o2 := 10) (e2 := 0) (o := 4) (k := 0) (f := 128) hj cx hw hic4 rfl ⟨by decide, rfl, by decide, rfl⟩ rfl (by decide) ⟨rfl, rfl⟩ (List.mem_cons_of_mem _ cm_658) dX4_readArguments_1 ?_
  obtain ⟨p13, e_p13, h⟩ := md_ob h
  refine hp_callVv (As := []) (rest := []) cx hw (kc_X10_advance l D cA E _ ad _ hj oq sgq sgv hE n σ0  p13 e_p13) (cwV 0 cx.2.2.2.2.2.1 (cd_giV cm_670 cm_671 cm_672 cm_301 cm_673) rfl rfl rfl hdc_X10_advance ⟨by (try dsimp only); omega, by (try dsimp only); omega⟩) (cd_atO hj (by decide) (by decide)) rfl rfl hl.1 rfl (Nat.le_of_ble_eq_true rfl) dX4_readArguments_4 ⟨by (try dsimp only); omega, by (try dsimp only); omega⟩ (fun u H locs hp hw => ?_)
  obtain ⟨ca, hj, rfl⟩ := hp
  refine lv_iconst (v := 0) cx.1 cx.2.1 dX4_readArguments_7 (by decide) ?_
  refine lv_istore_n (lv' := [(2, .int 0), (0, .ref (ad 4 0)), (1, .int a1)]) cx.1 cx.2.1 dX4_readArguments_8 rfl hl (by decide) rfl (fun ls hl => ?_)
  refine lv_aload_n cx.1 cx.2.1 dX4_readArguments_9 rfl (lv_at hl 1 rfl) ?_
  refine cd_gO (o2 := 10) (e2 := 0) (o := 4) (k := 0) (f := 128) hj cx hw hic4 rfl ⟨by decide, rfl, by decide, rfl⟩ rfl (by decide) ⟨rfl, rfl⟩ (List.mem_cons_of_mem _ cm_658) dX4_readArguments_10 ?_
  refine cd_gI (o := 10) (k := 8) (f := 328) hj cx hw hic10 rfl ⟨by decide, rfl, by decide, rfl⟩ rfl (by decide) (List.mem_cons_of_mem _ cm_665) dX4_readArguments_13 ?_
  refine lv_bipush (v := 41) cx.1 cx.2.1 dX4_readArguments_16 (by decide) ?_
  refine lv_icmp_eq (tgt := 25) cx.1 cx.2.1 dX4_readArguments_18 (by decide) (fun c18 => ?_) (fun c18 => ?_)
  · have h := md_ip c18 h
    refine lv_iconst (v := 0) cx.1 cx.2.1 dX4_readArguments_25 (by decide) ?_
    exact J26 _ hj p13.2 b0 a1 0 0 _ _ _ (by omega) (by omega) (by omega) (by omega) h hw (lv_sub hl [1, 2, 0] rfl)
  · have h := md_in c18 h
    refine lv_iconst (v := 1) cx.1 cx.2.1 dX4_readArguments_21 (by decide) ?_
    refine lv_goto (tgt := 26) cx.1 cx.2.1 dX4_readArguments_22 (by decide) ?_
    exact J26 _ hj p13.2 b0 a1 0 1 _ _ _ (by omega) (by omega) (by omega) (by omega) h hw (lv_sub hl [1, 2, 0] rfl)
