set_option maxHeartbeats 4000000 in
set_option maxRecDepth 100000 in
theorem km_X12_readAll (l : Launch) (D : va_G) (cA : Nat → ClassId) (E : hp_N) (sz : Nat) (ad : Nat → Nat) (hj : md_inj ad) (hE : md_E E) (n : Nat) (σ0 : md_S) (p : (Int32 × md_S)) (h : f_X12_readAll n σ0 = some p) : Met l yX12_readAll (Cond.code yX12_readAll cX12_readAll 1 none :: v_MOD) ({ frames := 413, cells := 0, slots := 0, locals := 10312 }) (hp_Pc D vwCl (hp_Tl cA) E sz (md_pic cA ad σ0) [.ref (ad 137)]) (hp_Qv D vwCl (hp_Tl cA) sz (md_pic cA ad σ0) (fun u => u = md_pic cA ad p.2)) 0 0 (hp_A (md_pic cA ad σ0) sz) := by
  refine hp_ofW (cc := cX12_readAll) (maxL := 1) (ret := none) (by decide) rfl (Nat.le_of_ble_eq_true rfl) ?_
  intro pp ee ss mm bb mt cd ls cx hsz hw hl
  have hl : lv_has ls 1 [(0, .ref (ad 137))] := hl
  have L0 : ∀ (j : Nat) (σ : md_S) (q : (md_S)) (H : Heap) (locs : List Loc) (ls : Array Slot), f_X12_readAll_L0 n j σ = some q → hp_w D vwCl (hp_Tl cA) E (hp_A (md_pic cA ad σ0) sz) ss H locs (md_pic cA ad σ) → lv_has ls 1 [(0, .ref (ad 137))] → (∀ (H : Heap) (locs : List Loc) (ls : Array Slot), hp_w D vwCl (hp_Tl cA) E (hp_A (md_pic cA ad σ0) sz) ss H locs (md_pic cA ad q) → lv_has ls 1 [(0, .ref (ad 137))] → W pp l ee ({ frames := 413, cells := 0, slots := 0, locals := 10312 }) ss mm [.ref (ad 137)].toArray bb mt cd H locs 0 0 (MQ bb (hp_Qv D vwCl (hp_Tl cA) sz (md_pic cA ad σ0) (fun u => u = md_pic cA ad p.2)) [.ref (ad 137)].toArray ss 0 0 (hp_A (md_pic cA ad σ0) sz)) (F0 mm 15 ls [])) → W pp l ee ({ frames := 413, cells := 0, slots := 0, locals := 10312 }) ss mm [.ref (ad 137)].toArray bb mt cd H locs 0 0 (MQ bb (hp_Qv D vwCl (hp_Tl cA) sz (md_pic cA ad σ0) (fun u => u = md_pic cA ad p.2)) [.ref (ad 137)].toArray ss 0 0 (hp_A (md_pic cA ad σ0) sz)) (F0 mm 0 ls []) := by
    intro j
    induction j with
    | zero => intro σ q H locs ls h; exact nomatch h
    | succ j ih =>
      intro σ q H locs ls h hw hl K
      refine lv_aload_n cx.1 cx.2.1 dX12_readAll_0 rfl (lv_at hl 0 rfl) ?_
      refine lv_iconst (v := 0) cx.1 cx.2.1 dX12_readAll_1 (by decide) ?_
      obtain ⟨p1, e_p1, h⟩ := md_ob h
      refine hp_callVi (As := [.int 0]) (rest := []) cx hw (km_X12_isKey l D cA E _ ad hj hE n σ (0 : Int32) p1 e_p1) (cwV 1 cx.2.2.2.2.2.1 (md_giV mm_96 mm_97 mm_98 mm_5 mm_99) rfl rfl rfl hd_X12_isKey ⟨Nat.le_of_ble_eq_true rfl, Nat.le_of_ble_eq_true rfl⟩) md_at0 rfl rfl hl.1 rfl (Nat.le_of_ble_eq_true rfl) dX12_readAll_2 ⟨Nat.le_refl _, Nat.le_refl _⟩ (fun r u H locs hp hw => ?_)
      obtain ⟨rfl, rfl⟩ := hp
      refine lv_if_eq (tgt := 15) cx.1 cx.2.1 dX12_readAll_5 (by decide) (fun c5 => ?_) (fun c5 => ?_)
      · have h := md_ip c5 h
        obtain rfl := Option.some.inj h
        exact K _ _ _ hw (lv_sub hl [0] rfl)
      · have h := md_in c5 h
        refine lv_aload_n cx.1 cx.2.1 dX12_readAll_8 rfl (lv_at hl 0 rfl) ?_
        obtain ⟨p2, e_p2, h⟩ := md_ob h
        refine hp_callVv (As := []) (rest := []) cx hw (km_X12_grant l D cA E _ ad hj hE n p1.2  p2 e_p2) (cwV 0 cx.2.2.2.2.2.1 (md_giV mm_385 mm_386 mm_387 mm_5 mm_388) rfl rfl rfl hd_X12_grant ⟨Nat.le_of_ble_eq_true rfl, Nat.le_of_ble_eq_true rfl⟩) md_at0 rfl rfl hl.1 rfl (Nat.le_of_ble_eq_true rfl) dX12_readAll_9 ⟨Nat.le_refl _, Nat.le_refl _⟩ (fun u H locs hp hw => ?_)
        obtain rfl := hp
        refine lv_goto (tgt := 0) cx.1 cx.2.1 dX12_readAll_12 (by decide) ?_
        exact ih p2.2 q _ _ _ h hw (lv_sub hl [0] rfl) K
  obtain ⟨q3, e_q3, h⟩ := md_ob h
  refine L0 n σ0 q3 _ _ _ e_q3 hw (lv_sub hl [0] rfl) (fun H locs ls hw hl => ?_)
  have L15 : ∀ (j : Nat) (σ : md_S) (q : (md_S)) (H : Heap) (locs : List Loc) (ls : Array Slot), f_X12_readAll_L15 n j σ = some q → hp_w D vwCl (hp_Tl cA) E (hp_A (md_pic cA ad σ0) sz) ss H locs (md_pic cA ad σ) → lv_has ls 1 [(0, .ref (ad 137))] → (∀ (H : Heap) (locs : List Loc) (ls : Array Slot), hp_w D vwCl (hp_Tl cA) E (hp_A (md_pic cA ad σ0) sz) ss H locs (md_pic cA ad q) → lv_has ls 1 [] → W pp l ee ({ frames := 413, cells := 0, slots := 0, locals := 10312 }) ss mm [.ref (ad 137)].toArray bb mt cd H locs 0 0 (MQ bb (hp_Qv D vwCl (hp_Tl cA) sz (md_pic cA ad σ0) (fun u => u = md_pic cA ad p.2)) [.ref (ad 137)].toArray ss 0 0 (hp_A (md_pic cA ad σ0) sz)) (F0 mm 33 ls [])) → W pp l ee ({ frames := 413, cells := 0, slots := 0, locals := 10312 }) ss mm [.ref (ad 137)].toArray bb mt cd H locs 0 0 (MQ bb (hp_Qv D vwCl (hp_Tl cA) sz (md_pic cA ad σ0) (fun u => u = md_pic cA ad p.2)) [.ref (ad 137)].toArray ss 0 0 (hp_A (md_pic cA ad σ0) sz)) (F0 mm 15 ls []) := by
    intro j
    induction j with
    | zero => intro σ q H locs ls h; exact nomatch h
    | succ j ih =>
      intro σ q H locs ls h hw hl K
      refine lv_aload_n cx.1 cx.2.1 dX12_readAll_15 rfl (lv_at hl 0 rfl) ?_
      obtain ⟨p4, e_p4, h⟩ := md_ob h
      refine hp_callVv (As := []) (rest := []) cx hw (km_X12_readModule l D cA E _ ad hj hE n σ  p4 e_p4) (cwV 0 cx.2.2.2.2.2.1 (md_giV mm_389 mm_390 mm_391 mm_5 mm_392) rfl rfl rfl hd_X12_readModule ⟨Nat.le_of_ble_eq_true rfl, Nat.le_of_ble_eq_true rfl⟩) md_at0 rfl rfl hl.1 rfl (Nat.le_of_ble_eq_true rfl) dX12_readAll_16 ⟨Nat.le_refl _, Nat.le_refl _⟩ (fun u H locs hp hw => ?_)
      obtain rfl := hp
      refine lv_aload_n cx.1 cx.2.1 dX12_readAll_19 rfl (lv_at hl 0 rfl) ?_
      obtain ⟨p5, e_p5, h⟩ := md_ob h
      refine hp_callVi (As := []) (rest := []) cx hw (km_X12_isFine l D cA E _ ad hj hE n p4.2  p5 e_p5) (cwV 0 cx.2.2.2.2.2.1 (md_giV mm_64 mm_65 mm_66 mm_5 mm_67) rfl rfl rfl hd_X12_isFine ⟨Nat.le_of_ble_eq_true rfl, Nat.le_of_ble_eq_true rfl⟩) md_at0 rfl rfl hl.1 rfl (Nat.le_of_ble_eq_true rfl) dX12_readAll_20 ⟨Nat.le_refl _, Nat.le_refl _⟩ (fun r u H locs hp hw => ?_)
      obtain ⟨rfl, rfl⟩ := hp
      refine lv_if_eq (tgt := 33) cx.1 cx.2.1 dX12_readAll_23 (by decide) (fun c23 => ?_) (fun c23 => ?_)
      · have h := md_ip c23 h
        obtain rfl := Option.some.inj h
        exact K _ _ _ hw (lv_sub hl [] rfl)
      · have h := md_in c23 h
        refine lv_aload_n cx.1 cx.2.1 dX12_readAll_26 rfl (lv_at hl 0 rfl) ?_
        refine md_gI (k := 8) cx hw hin12c rfl (by decide) (List.mem_cons_of_mem _ mm_15) dX12_readAll_27 ?_
        refine lv_if_ne (tgt := 15) cx.1 cx.2.1 dX12_readAll_30 (by decide) (fun c30 => ?_) (fun c30 => ?_)
        · have h := md_in c30 h
          exact ih p5.2 q _ _ _ h hw (lv_sub hl [0] rfl) K
        · have h := md_ip c30 h
          obtain rfl := Option.some.inj h
          exact K _ _ _ hw (lv_sub hl [] rfl)
  obtain ⟨q6, e_q6, h⟩ := md_ob h
  refine L15 n q3 q6 _ _ _ e_q6 hw (lv_sub hl [0] rfl) (fun H locs ls hw hl => ?_)
  exact hp_vret cx hw (md_retv h) dX12_readAll_33
set_option maxHeartbeats 4000000 in
set_option maxRecDepth 100000 in
theorem km_X12_put (l : Launch) (D : va_G) (cA : Nat → ClassId) (E : hp_N) (sz : Nat) (ad : Nat → Nat) (hj : md_inj ad) (hE : md_E E) (n : Nat) (σ0 : md_S) (a1 : Int32) (p : (Int32 × md_S)) (h : f_X12_put n σ0 a1 = some p) : Met l yX12_put (Cond.code yX12_put cX12_put 2 none :: v_MOD) ({ frames := 0, cells := 0, slots := 0, locals := 0 }) (hp_Pc D vwCl (hp_Tl cA) E sz (md_pic cA ad σ0) [.ref (ad 137), .int a1]) (hp_Qv D vwCl (hp_Tl cA) sz (md_pic cA ad σ0) (fun u => u = md_pic cA ad p.2)) 0 0 (hp_A (md_pic cA ad σ0) sz) := by
  refine hp_ofW (cc := cX12_put) (maxL := 2) (ret := none) (by decide) rfl (Nat.le_of_ble_eq_true rfl) ?_
  intro pp ee ss mm bb mt cd ls cx hsz hw hl
  have hl : lv_has ls 2 [(0, .ref (ad 137)), (1, .int a1)] := hl
  refine lv_aload_n cx.1 cx.2.1 dX12_put_0 rfl (lv_at hl 0 rfl) ?_
  refine md_gR (k := 74) cx hw hin12c (by decide) (by decide) (List.mem_cons_of_mem _ mm_393) dX12_put_1 ?_
  refine lv_aload_n cx.1 cx.2.1 dX12_put_4 rfl (lv_at hl 0 rfl) ?_
  refine md_gI (k := 75) cx hw hin12c rfl (by decide) (List.mem_cons_of_mem _ mm_394) dX12_put_5 ?_
  refine lv_iload_n cx.1 cx.2.1 dX12_put_8 rfl (lv_at hl 1 rfl) ?_
  refine lv_i2b (v := (a1.toInt8.toInt32)) cx.1 cx.2.1 dX12_put_9 rfl ?_
  obtain ⟨σ1, e_σ1, h⟩ := md_ob h
  refine md_sB (k := 74) hj cx hw (by decide) rfl rfl rfl e_σ1 dX12_put_10 (fun H locs hw => ?_)
  refine lv_aload_n cx.1 cx.2.1 dX12_put_11 rfl (lv_at hl 0 rfl) ?_
  refine lv_dup cx.1 cx.2.1 dX12_put_12 rfl ?_
  refine md_gI (k := 75) cx hw hin12c rfl (by decide) (List.mem_cons_of_mem _ mm_394) dX12_put_13 ?_
  refine lv_iconst (v := 1) cx.1 cx.2.1 dX12_put_16 (by decide) ?_
  refine lv_iadd cx.1 cx.2.1 dX12_put_17 ?_
  obtain ⟨σ2, e_σ2, h⟩ := md_ob h
  refine md_pI (k := 75) cx hw hin12c rfl (by decide) rfl (List.mem_cons_of_mem _ mm_394) rfl e_σ2 dX12_put_18 (fun H locs hw => ?_)
  exact hp_vret cx hw (md_retv h) dX12_put_21
set_option maxHeartbeats 4000000 in
set_option maxRecDepth 100000 in
theorem km_X12_putNumber (l : Launch) (D : va_G) (cA : Nat → ClassId) (E : hp_N) (sz : Nat) (ad : Nat → Nat) (hj : md_inj ad) (hE : md_E E) (n : Nat) (σ0 : md_S) (a1 : Int32) (p : (Int32 × md_S)) (h : f_X12_putNumber n σ0 a1 = some p) : Met l yX12_putNumber (Cond.code yX12_putNumber cX12_putNumber 2 none :: v_MOD) ({ frames := 1, cells := 0, slots := 0, locals := 21 }) (hp_Pc D vwCl (hp_Tl cA) E sz (md_pic cA ad σ0) [.ref (ad 137), .int a1]) (hp_Qv D vwCl (hp_Tl cA) sz (md_pic cA ad σ0) (fun u => u = md_pic cA ad p.2)) 0 0 (hp_A (md_pic cA ad σ0) sz) := by
  refine hp_ofW (cc := cX12_putNumber) (maxL := 2) (ret := none) (by decide) rfl (Nat.le_of_ble_eq_true rfl) ?_
  intro pp ee ss mm bb mt cd ls cx hsz hw hl
  have hl : lv_has ls 2 [(0, .ref (ad 137)), (1, .int a1)] := hl
  refine lv_aload_n cx.1 cx.2.1 dX12_putNumber_0 rfl (lv_at hl 0 rfl) ?_
  refine lv_iload_n cx.1 cx.2.1 dX12_putNumber_1 rfl (lv_at hl 1 rfl) ?_
  refine lv_bipush (v := 8) cx.1 cx.2.1 dX12_putNumber_2 (by decide) ?_
  refine lv_ishr cx.1 cx.2.1 dX12_putNumber_4 ?_
  obtain ⟨p1, e_p1, h⟩ := md_ob h
  refine hp_callVv (As := [.int (a1 >>> (8 &&& 31))]) (rest := []) cx hw (km_X12_put l D cA E _ ad hj hE n σ0 ((a1 >>> (8 &&& 31))) p1 e_p1) (cwV 1 cx.2.2.2.2.2.1 (md_giV mm_395 mm_396 mm_397 mm_5 mm_398) rfl rfl rfl hd_X12_put ⟨Nat.le_of_ble_eq_true rfl, Nat.le_of_ble_eq_true rfl⟩) md_at0 rfl rfl hl.1 rfl (Nat.le_of_ble_eq_true rfl) dX12_putNumber_5 ⟨Nat.le_refl _, Nat.le_refl _⟩ (fun u H locs hp hw => ?_)
  obtain rfl := hp
  refine lv_aload_n cx.1 cx.2.1 dX12_putNumber_8 rfl (lv_at hl 0 rfl) ?_
  refine lv_iload_n cx.1 cx.2.1 dX12_putNumber_9 rfl (lv_at hl 1 rfl) ?_
  obtain ⟨p2, e_p2, h⟩ := md_ob h
  refine hp_callVv (As := [.int a1]) (rest := []) cx hw (km_X12_put l D cA E _ ad hj hE n p1.2 a1 p2 e_p2) (cwV 1 cx.2.2.2.2.2.1 (md_giV mm_395 mm_396 mm_397 mm_5 mm_398) rfl rfl rfl hd_X12_put ⟨Nat.le_of_ble_eq_true rfl, Nat.le_of_ble_eq_true rfl⟩) md_at0 rfl rfl hl.1 rfl (Nat.le_of_ble_eq_true rfl) dX12_putNumber_10 ⟨Nat.le_refl _, Nat.le_refl _⟩ (fun u H locs hp hw => ?_)
  obtain rfl := hp
  exact hp_vret cx hw (md_retv h) dX12_putNumber_13
set_option maxHeartbeats 4000000 in
set_option maxRecDepth 100000 in
theorem km_X12_put_ (l : Launch) (D : va_G) (cA : Nat → ClassId) (E : hp_N) (sz : Nat) (ad : Nat → Nat) (hj : md_inj ad) (hE : md_E E) (n : Nat) (σ0 : md_S) (a1 : Int32) (a2 : Int32) (p : (Int32 × md_S)) (h : f_X12_put_ n σ0 a1 a2 = some p) : Met l yX12_put_ (Cond.code yX12_put_ cX12_put_ 3 none :: v_MOD) ({ frames := 2, cells := 0, slots := 0, locals := 42 }) (hp_Pc D vwCl (hp_Tl cA) E sz (md_pic cA ad σ0) [.ref (ad 137), .int a1, .int a2]) (hp_Qv D vwCl (hp_Tl cA) sz (md_pic cA ad σ0) (fun u => u = md_pic cA ad p.2)) 0 0 (hp_A (md_pic cA ad σ0) sz) := by
  refine hp_ofW (cc := cX12_put_) (maxL := 3) (ret := none) (by decide) rfl (Nat.le_of_ble_eq_true rfl) ?_
  intro pp ee ss mm bb mt cd ls cx hsz hw hl
  have hl : lv_has ls 3 [(0, .ref (ad 137)), (1, .int a1), (2, .int a2)] := hl
  refine lv_aload_n cx.1 cx.2.1 dX12_put__0 rfl (lv_at hl 0 rfl) ?_
  refine lv_iload_n cx.1 cx.2.1 dX12_put__1 rfl (lv_at hl 1 rfl) ?_
  obtain ⟨p1, e_p1, h⟩ := md_ob h
  refine hp_callVv (As := [.int a1]) (rest := []) cx hw (km_X12_put l D cA E _ ad hj hE n σ0 a1 p1 e_p1) (cwV 1 cx.2.2.2.2.2.1 (md_giV mm_395 mm_396 mm_397 mm_5 mm_398) rfl rfl rfl hd_X12_put ⟨Nat.le_of_ble_eq_true rfl, Nat.le_of_ble_eq_true rfl⟩) md_at0 rfl rfl hl.1 rfl (Nat.le_of_ble_eq_true rfl) dX12_put__2 ⟨Nat.le_refl _, Nat.le_refl _⟩ (fun u H locs hp hw => ?_)
  obtain rfl := hp
  refine lv_aload_n cx.1 cx.2.1 dX12_put__5 rfl (lv_at hl 0 rfl) ?_
  refine lv_iload_n cx.1 cx.2.1 dX12_put__6 rfl (lv_at hl 2 rfl) ?_
  obtain ⟨p2, e_p2, h⟩ := md_ob h
  refine hp_callVv (As := [.int a2]) (rest := []) cx hw (km_X12_putNumber l D cA E _ ad hj hE n p1.2 a2 p2 e_p2) (cwV 1 cx.2.2.2.2.2.1 (md_giV mm_399 mm_400 mm_401 mm_5 mm_402) rfl rfl rfl hd_X12_putNumber ⟨Nat.le_of_ble_eq_true rfl, Nat.le_of_ble_eq_true rfl⟩) md_at0 rfl rfl hl.1 rfl (Nat.le_of_ble_eq_true rfl) dX12_put__7 ⟨Nat.le_refl _, Nat.le_refl _⟩ (fun u H locs hp hw => ?_)
  obtain rfl := hp
  exact hp_vret cx hw (md_retv h) dX12_put__10
set_option maxHeartbeats 4000000 in
set_option maxRecDepth 100000 in
theorem km_X12_opening (l : Launch) (D : va_G) (cA : Nat → ClassId) (E : hp_N) (sz : Nat) (ad : Nat → Nat) (hj : md_inj ad) (hE : md_E E) (n : Nat) (σ0 : md_S) (a1 : Int32) (p : (Int32 × md_S)) (h : f_X12_opening n σ0 a1 = some p) : Met l yX12_opening (Cond.code yX12_opening cX12_opening 3 none :: v_MOD) ({ frames := 3, cells := 0, slots := 0, locals := 64 }) (hp_Pc D vwCl (hp_Tl cA) E sz (md_pic cA ad σ0) [.ref (ad 137), .int a1]) (hp_Qv D vwCl (hp_Tl cA) sz (md_pic cA ad σ0) (fun u => u = md_pic cA ad p.2)) 0 0 (hp_A (md_pic cA ad σ0) sz) := by
  refine hp_ofW (cc := cX12_opening) (maxL := 3) (ret := none) (by decide) rfl (Nat.le_of_ble_eq_true rfl) ?_
  intro pp ee ss mm bb mt cd ls cx hsz hw hl
  have hl : lv_has ls 3 [(0, .ref (ad 137)), (1, .int a1)] := hl
  have J60 : ∀ (σ : md_S) (l1 : Int32) (l2 : Int32) (t0 : Int32) (H : Heap) (locs : List Loc) (ls : Array Slot), f_X12_opening_J60 n σ l1 l2 t0 = some p → hp_w D vwCl (hp_Tl cA) E (hp_A (md_pic cA ad σ0) sz) ss H locs (md_pic cA ad σ) → lv_has ls 3 [(0, .ref (ad 137)), (1, .int l1), (2, .int l2)] → W pp l ee ({ frames := 3, cells := 0, slots := 0, locals := 64 }) ss mm [.ref (ad 137), .int a1].toArray bb mt cd H locs 0 0 (MQ bb (hp_Qv D vwCl (hp_Tl cA) sz (md_pic cA ad σ0) (fun u => u = md_pic cA ad p.2)) [.ref (ad 137), .int a1].toArray ss 0 0 (hp_A (md_pic cA ad σ0) sz)) (F0 mm 60 ls [.int t0, .ref (ad 137)]) := by
    intro σ l1 l2 t0 H locs ls h hw hl
    refine lv_iload_n cx.1 cx.2.1 dX12_opening_60 rfl (lv_at hl 2 rfl) ?_
    obtain ⟨p1, e_p1, h⟩ := md_ob h
    refine hp_callVv (As := [.int t0, .int l2]) (rest := []) cx hw (km_X12_put_ l D cA E _ ad hj hE n σ t0 l2 p1 e_p1) (cwV 2 cx.2.2.2.2.2.1 (md_giV mm_403 mm_404 mm_405 mm_5 mm_406) rfl rfl rfl hd_X12_put_ ⟨Nat.le_of_ble_eq_true rfl, Nat.le_of_ble_eq_true rfl⟩) md_at0 rfl rfl hl.1 rfl (Nat.le_of_ble_eq_true rfl) dX12_opening_61 ⟨Nat.le_refl _, Nat.le_refl _⟩ (fun u H locs hp hw => ?_)
    obtain rfl := hp
    refine lv_aload_n cx.1 cx.2.1 dX12_opening_64 rfl (lv_at hl 0 rfl) ?_
    refine md_gR (k := 36) cx hw hin12c (by decide) (by decide) (List.mem_cons_of_mem _ mm_139) dX12_opening_65 ?_
    refine lv_iload_n cx.1 cx.2.1 dX12_opening_68 rfl (lv_at hl 1 rfl) ?_
    obtain ⟨v2, e_v2, h⟩ := md_ob h
    refine md_lI (k := 36) hj cx hw (by decide) rfl rfl rfl e_v2 dX12_opening_69 ?_
    refine lv_iconst (v := 3) cx.1 cx.2.1 dX12_opening_70 (by decide) ?_
    refine lv_icmp_ne (tgt := 84) cx.1 cx.2.1 dX12_opening_71 (by decide) (fun c71 => ?_) (fun c71 => ?_)
    · have h := md_in c71 h
      exact hp_vret cx hw (md_retv h) dX12_opening_84
    · have h := md_ip c71 h
      refine lv_aload_n cx.1 cx.2.1 dX12_opening_74 rfl (lv_at hl 0 rfl) ?_
      refine lv_aload_n cx.1 cx.2.1 dX12_opening_75 rfl (lv_at hl 0 rfl) ?_
      refine md_gR (k := 42) cx hw hin12c (by decide) (by decide) (List.mem_cons_of_mem _ mm_247) dX12_opening_76 ?_
      refine lv_iload_n cx.1 cx.2.1 dX12_opening_79 rfl (lv_at hl 1 rfl) ?_
      obtain ⟨v3, e_v3, h⟩ := md_ob h
      refine md_lI (k := 42) hj cx hw (by decide) rfl rfl rfl e_v3 dX12_opening_80 ?_
      obtain ⟨p4, e_p4, h⟩ := md_ob h
      refine hp_callVv (As := [.int v3]) (rest := []) cx hw (km_X12_putNumber l D cA E _ ad hj hE n p1.2 v3 p4 e_p4) (cwV 1 cx.2.2.2.2.2.1 (md_giV mm_399 mm_400 mm_401 mm_5 mm_402) rfl rfl rfl hd_X12_putNumber ⟨Nat.le_of_ble_eq_true rfl, Nat.le_of_ble_eq_true rfl⟩) md_at0 rfl rfl hl.1 rfl (Nat.le_of_ble_eq_true rfl) dX12_opening_81 ⟨Nat.le_refl _, Nat.le_refl _⟩ (fun u H locs hp hw => ?_)
      obtain rfl := hp
      exact hp_vret cx hw (md_retv h) dX12_opening_84
  refine lv_aload_n cx.1 cx.2.1 dX12_opening_0 rfl (lv_at hl 0 rfl) ?_
  refine md_gR (k := 32) cx hw hin12c (by decide) (by decide) (List.mem_cons_of_mem _ mm_138) dX12_opening_1 ?_
  refine lv_aload_n cx.1 cx.2.1 dX12_opening_4 rfl (lv_at hl 0 rfl) ?_
  refine md_gR (k := 37) cx hw hin12c (by decide) (by decide) (List.mem_cons_of_mem _ mm_243) dX12_opening_5 ?_
  refine lv_iload_n cx.1 cx.2.1 dX12_opening_8 rfl (lv_at hl 1 rfl) ?_
  obtain ⟨v5, e_v5, h⟩ := md_ob h
  refine md_lI (k := 37) hj cx hw (by decide) rfl rfl rfl e_v5 dX12_opening_9 ?_
  obtain ⟨v6, e_v6, h⟩ := md_ob h
  refine md_lI (k := 32) hj cx hw (by decide) rfl rfl rfl e_v6 dX12_opening_10 ?_
  refine lv_istore_n (lv' := [(2, .int v6), (0, .ref (ad 137)), (1, .int a1)]) cx.1 cx.2.1 dX12_opening_11 rfl hl (by decide) rfl (fun ls hl => ?_)
  refine lv_aload_n cx.1 cx.2.1 dX12_opening_12 rfl (lv_at hl 1 rfl) ?_
  refine lv_aload_n cx.1 cx.2.1 dX12_opening_13 rfl (lv_at hl 1 rfl) ?_
  refine md_gR (k := 36) cx hw hin12c (by decide) (by decide) (List.mem_cons_of_mem _ mm_139) dX12_opening_14 ?_
  refine lv_iload_n cx.1 cx.2.1 dX12_opening_17 rfl (lv_at hl 2 rfl) ?_
  obtain ⟨v7, e_v7, h⟩ := md_ob h
  refine md_lI (k := 36) hj cx hw (by decide) rfl rfl rfl e_v7 dX12_opening_18 ?_
  refine lv_iconst (v := 2) cx.1 cx.2.1 dX12_opening_19 (by decide) ?_
  refine lv_icmp_ne (tgt := 28) cx.1 cx.2.1 dX12_opening_20 (by decide) (fun c20 => ?_) (fun c20 => ?_)
  · have h := md_in c20 h
    refine lv_aload_n cx.1 cx.2.1 dX12_opening_28 rfl (lv_at hl 1 rfl) ?_
    refine md_gR (k := 36) cx hw hin12c (by decide) (by decide) (List.mem_cons_of_mem _ mm_139) dX12_opening_29 ?_
    refine lv_iload_n cx.1 cx.2.1 dX12_opening_32 rfl (lv_at hl 2 rfl) ?_
    obtain ⟨v8, e_v8, h⟩ := md_ob h
    refine md_lI (k := 36) hj cx hw (by decide) rfl rfl rfl e_v8 dX12_opening_33 ?_
    refine lv_iconst (v := 3) cx.1 cx.2.1 dX12_opening_34 (by decide) ?_
    refine lv_icmp_ne (tgt := 43) cx.1 cx.2.1 dX12_opening_35 (by decide) (fun c35 => ?_) (fun c35 => ?_)
    · have h := md_in c35 h
      refine lv_aload_n cx.1 cx.2.1 dX12_opening_43 rfl (lv_at hl 1 rfl) ?_
      refine md_gR (k := 36) cx hw hin12c (by decide) (by decide) (List.mem_cons_of_mem _ mm_139) dX12_opening_44 ?_
      refine lv_iload_n cx.1 cx.2.1 dX12_opening_47 rfl (lv_at hl 2 rfl) ?_
      obtain ⟨v9, e_v9, h⟩ := md_ob h
      refine md_lI (k := 36) hj cx hw (by decide) rfl rfl rfl e_v9 dX12_opening_48 ?_
      refine lv_iconst (v := 4) cx.1 cx.2.1 dX12_opening_49 (by decide) ?_
      refine lv_icmp_ne (tgt := 58) cx.1 cx.2.1 dX12_opening_50 (by decide) (fun c50 => ?_) (fun c50 => ?_)
      · have h := md_in c50 h
        refine lv_bipush (v := 30) cx.1 cx.2.1 dX12_opening_58 (by decide) ?_
        exact J60 σ0 a1 v6 30 _ _ _ h hw (lv_sub hl [1, 2, 0] rfl)
      · have h := md_ip c50 h
        refine lv_bipush (v := 33) cx.1 cx.2.1 dX12_opening_53 (by decide) ?_
        refine lv_goto (tgt := 60) cx.1 cx.2.1 dX12_opening_55 (by decide) ?_
        exact J60 σ0 a1 v6 33 _ _ _ h hw (lv_sub hl [1, 2, 0] rfl)
    · have h := md_ip c35 h
      refine lv_bipush (v := 32) cx.1 cx.2.1 dX12_opening_38 (by decide) ?_
      refine lv_goto (tgt := 60) cx.1 cx.2.1 dX12_opening_40 (by decide) ?_
      exact J60 σ0 a1 v6 32 _ _ _ h hw (lv_sub hl [1, 2, 0] rfl)
  · have h := md_ip c20 h
    refine lv_bipush (v := 31) cx.1 cx.2.1 dX12_opening_23 (by decide) ?_
    refine lv_goto (tgt := 60) cx.1 cx.2.1 dX12_opening_25 (by decide) ?_
    exact J60 σ0 a1 v6 31 _ _ _ h hw (lv_sub hl [1, 2, 0] rfl)
set_option maxHeartbeats 4000000 in
set_option maxRecDepth 100000 in
theorem km_X12_isSpine (l : Launch) (D : va_G) (cA : Nat → ClassId) (E : hp_N) (sz : Nat) (ad : Nat → Nat) (hj : md_inj ad) (hE : md_E E) (n : Nat) (σ0 : md_S) (a0 : Int32) (p : (Int32 × md_S)) (h : f_X12_isSpine n σ0 a0 = some p) : Met l yX12_isSpine (Cond.code yX12_isSpine cX12_isSpine 1 (some .boolean) :: v_MOD) ({ frames := 1, cells := 0, slots := 0, locals := 25 }) (hp_Pc D vwCl (hp_Tl cA) E sz (md_pic cA ad σ0) [.int a0]) (hp_Qi D vwCl (hp_Tl cA) sz (md_pic cA ad σ0) (fun r u => r = p.1 ∧ u = md_pic cA ad p.2)) 0 0 (hp_A (md_pic cA ad σ0) sz) := by
  refine hp_ofW (cc := cX12_isSpine) (maxL := 1) (ret := (some .boolean)) (by decide) rfl (Nat.le_of_ble_eq_true rfl) ?_
  intro pp ee ss mm bb mt cd ls cx hsz hw hl
  have hl : lv_has ls 1 [(0, .int a0)] := hl
  have J37 : ∀ (σ : md_S) (H : Heap) (locs : List Loc) (ls : Array Slot), f_X12_isSpine_J37 n σ = some p → hp_w D vwCl (hp_Tl cA) E (hp_A (md_pic cA ad σ0) sz) ss H locs (md_pic cA ad σ) → lv_has ls 1 [] → W pp l ee ({ frames := 1, cells := 0, slots := 0, locals := 25 }) ss mm [.int a0].toArray bb mt cd H locs 0 0 (MQ bb (hp_Qi D vwCl (hp_Tl cA) sz (md_pic cA ad σ0) (fun r u => r = p.1 ∧ u = md_pic cA ad p.2)) [.int a0].toArray ss 0 0 (hp_A (md_pic cA ad σ0) sz)) (F0 mm 37 ls []) := by
    intro σ H locs ls h hw hl
    refine lv_iconst (v := 1) cx.1 cx.2.1 dX12_isSpine_37 (by decide) ?_
    refine lv_goto (tgt := 42) cx.1 cx.2.1 dX12_isSpine_38 (by decide) ?_
    exact hp_zret cx hw (md_ret h) (by decide) dX12_isSpine_42
  refine lv_iload_n cx.1 cx.2.1 dX12_isSpine_0 rfl (lv_at hl 0 rfl) ?_
  refine lv_iconst (v := 5) cx.1 cx.2.1 dX12_isSpine_1 (by decide) ?_
  refine lv_icmp_eq (tgt := 37) cx.1 cx.2.1 dX12_isSpine_2 (by decide) (fun c2 => ?_) (fun c2 => ?_)
  · have h := md_ip c2 h
    exact J37 σ0 _ _ _ h hw (lv_sub hl [] rfl)
  · have h := md_in c2 h
    refine lv_iload_n cx.1 cx.2.1 dX12_isSpine_5 rfl (lv_at hl 0 rfl) ?_
    refine lv_bipush (v := 6) cx.1 cx.2.1 dX12_isSpine_6 (by decide) ?_
    refine lv_icmp_eq (tgt := 37) cx.1 cx.2.1 dX12_isSpine_8 (by decide) (fun c8 => ?_) (fun c8 => ?_)
    · have h := md_ip c8 h
      exact J37 σ0 _ _ _ h hw (lv_sub hl [] rfl)
    · have h := md_in c8 h
      refine lv_iload_n cx.1 cx.2.1 dX12_isSpine_11 rfl (lv_at hl 0 rfl) ?_
      refine lv_bipush (v := 7) cx.1 cx.2.1 dX12_isSpine_12 (by decide) ?_
      refine lv_icmp_eq (tgt := 37) cx.1 cx.2.1 dX12_isSpine_14 (by decide) (fun c14 => ?_) (fun c14 => ?_)
      · have h := md_ip c14 h
        exact J37 σ0 _ _ _ h hw (lv_sub hl [] rfl)
      · have h := md_in c14 h
        refine lv_iload_n cx.1 cx.2.1 dX12_isSpine_17 rfl (lv_at hl 0 rfl) ?_
        refine lv_bipush (v := 8) cx.1 cx.2.1 dX12_isSpine_18 (by decide) ?_
        refine lv_icmp_eq (tgt := 37) cx.1 cx.2.1 dX12_isSpine_20 (by decide) (fun c20 => ?_) (fun c20 => ?_)
        · have h := md_ip c20 h
          exact J37 σ0 _ _ _ h hw (lv_sub hl [] rfl)
        · have h := md_in c20 h
          refine lv_iload_n cx.1 cx.2.1 dX12_isSpine_23 rfl (lv_at hl 0 rfl) ?_
          refine lv_i2l (v := (a0.toInt64)) cx.1 cx.2.1 dX12_isSpine_24 rfl ?_
          refine lv_ldc2 cx.1 cx.2.1 cx.2.2.2.2.1 (cx.2.2.2.2.2.1 _ (List.mem_cons_of_mem _ mm_407)) dX12_isSpine_25 ?_
          refine lv_ldc2 cx.1 cx.2.1 cx.2.2.2.2.1 (cx.2.2.2.2.2.1 _ (List.mem_cons_of_mem _ mm_408)) dX12_isSpine_28 ?_
          obtain ⟨p1, e_p1, h⟩ := md_ob h
          refine hp_callSi (As := [.long (a0.toInt64), .long 11, .long 15]) (rest := []) cx hw (km_X12_in l D cA E _ ad hj hE n σ0 ((a0.toInt64)) (11 : Int64) (15 : Int64) p1 e_p1) (cwS 3 cx.2.2.2.2.2.1 (md_giS mm_3 mm_4 mm_5 mm_6) rfl rfl rfl hd_X12_in ⟨Nat.le_of_ble_eq_true rfl, Nat.le_of_ble_eq_true rfl⟩) rfl hl.1 rfl (Nat.le_of_ble_eq_true rfl) dX12_isSpine_31 ⟨Nat.le_refl _, Nat.le_refl _⟩ (fun r u H locs hp hw => ?_)
          obtain ⟨rfl, rfl⟩ := hp
          refine lv_if_eq (tgt := 41) cx.1 cx.2.1 dX12_isSpine_34 (by decide) (fun c34 => ?_) (fun c34 => ?_)
          · have h := md_ip c34 h
            refine lv_iconst (v := 0) cx.1 cx.2.1 dX12_isSpine_41 (by decide) ?_
            exact hp_zret cx hw (md_ret h) (by decide) dX12_isSpine_42
          · have h := md_in c34 h
            exact J37 p1.2 _ _ _ h hw (lv_sub hl [] rfl)
set_option maxHeartbeats 4000000 in
set_option maxRecDepth 100000 in
theorem km_X12_localsOf (l : Launch) (D : va_G) (cA : Nat → ClassId) (E : hp_N) (sz : Nat) (ad : Nat → Nat) (hj : md_inj ad) (hE : md_E E) (n : Nat) (σ0 : md_S) (a1 : Int32) (p : (Int32 × md_S)) (h : f_X12_localsOf n σ0 a1 = some p) : Met l yX12_localsOf (Cond.code yX12_localsOf cX12_localsOf 2 (some .int) :: v_MOD) ({ frames := 0, cells := 0, slots := 0, locals := 0 }) (hp_Pc D vwCl (hp_Tl cA) E sz (md_pic cA ad σ0) [.ref (ad 137), .int a1]) (hp_Qi D vwCl (hp_Tl cA) sz (md_pic cA ad σ0) (fun r u => r = p.1 ∧ u = md_pic cA ad p.2)) 0 0 (hp_A (md_pic cA ad σ0) sz) := by
  refine hp_ofW (cc := cX12_localsOf) (maxL := 2) (ret := (some .int)) (by decide) rfl (Nat.le_of_ble_eq_true rfl) ?_
  intro pp ee ss mm bb mt cd ls cx hsz hw hl
  have hl : lv_has ls 2 [(0, .ref (ad 137)), (1, .int a1)] := hl
  have J20 : ∀ (σ : md_S) (l1 : Int32) (t0 : Int32) (t1 : Int32) (H : Heap) (locs : List Loc) (ls : Array Slot), f_X12_localsOf_J20 n σ l1 t0 t1 = some p → hp_w D vwCl (hp_Tl cA) E (hp_A (md_pic cA ad σ0) sz) ss H locs (md_pic cA ad σ) → lv_has ls 2 [(0, .ref (ad 137)), (1, .int l1)] → W pp l ee ({ frames := 0, cells := 0, slots := 0, locals := 0 }) ss mm [.ref (ad 137), .int a1].toArray bb mt cd H locs 0 0 (MQ bb (hp_Qi D vwCl (hp_Tl cA) sz (md_pic cA ad σ0) (fun r u => r = p.1 ∧ u = md_pic cA ad p.2)) [.ref (ad 137), .int a1].toArray ss 0 0 (hp_A (md_pic cA ad σ0) sz)) (F0 mm 20 ls [.int t0, .int t1]) := by
    intro σ l1 t0 t1 H locs ls h hw hl
    refine lv_iadd cx.1 cx.2.1 dX12_localsOf_20 ?_
    refine lv_aload_n cx.1 cx.2.1 dX12_localsOf_21 rfl (lv_at hl 0 rfl) ?_
    refine md_gR (k := 39) cx hw hin12c (by decide) (by decide) (List.mem_cons_of_mem _ mm_140) dX12_localsOf_22 ?_
    refine lv_iload_n cx.1 cx.2.1 dX12_localsOf_25 rfl (lv_at hl 1 rfl) ?_
    obtain ⟨v1, e_v1, h⟩ := md_ob h
    refine md_lI (k := 39) hj cx hw (by decide) rfl rfl rfl e_v1 dX12_localsOf_26 ?_
    refine lv_iadd cx.1 cx.2.1 dX12_localsOf_27 ?_
    refine lv_aload_n cx.1 cx.2.1 dX12_localsOf_28 rfl (lv_at hl 0 rfl) ?_
    refine md_gR (k := 46) cx hw hin12c (by decide) (by decide) (List.mem_cons_of_mem _ mm_219) dX12_localsOf_29 ?_
    refine lv_iload_n cx.1 cx.2.1 dX12_localsOf_32 rfl (lv_at hl 1 rfl) ?_
    obtain ⟨v2, e_v2, h⟩ := md_ob h
    refine md_lI (k := 46) hj cx hw (by decide) rfl rfl rfl e_v2 dX12_localsOf_33 ?_
    refine lv_iadd cx.1 cx.2.1 dX12_localsOf_34 ?_
    exact hp_iret cx hw (md_ret h) dX12_localsOf_35
  refine lv_aload_n cx.1 cx.2.1 dX12_localsOf_0 rfl (lv_at hl 0 rfl) ?_
  refine md_gR (k := 44) cx hw hin12c (by decide) (by decide) (List.mem_cons_of_mem _ mm_246) dX12_localsOf_1 ?_
  refine lv_iload_n cx.1 cx.2.1 dX12_localsOf_4 rfl (lv_at hl 1 rfl) ?_
  obtain ⟨v3, e_v3, h⟩ := md_ob h
  refine md_lI (k := 44) hj cx hw (by decide) rfl rfl rfl e_v3 dX12_localsOf_5 ?_
  refine lv_aload_n cx.1 cx.2.1 dX12_localsOf_6 rfl (lv_at hl 0 rfl) ?_
  refine md_gR (k := 36) cx hw hin12c (by decide) (by decide) (List.mem_cons_of_mem _ mm_139) dX12_localsOf_7 ?_
  refine lv_iload_n cx.1 cx.2.1 dX12_localsOf_10 rfl (lv_at hl 1 rfl) ?_
  obtain ⟨v4, e_v4, h⟩ := md_ob h
  refine md_lI (k := 36) hj cx hw (by decide) rfl rfl rfl e_v4 dX12_localsOf_11 ?_
  refine lv_if_ne (tgt := 19) cx.1 cx.2.1 dX12_localsOf_12 (by decide) (fun c12 => ?_) (fun c12 => ?_)
  · have h := md_in c12 h
    refine lv_iconst (v := 0) cx.1 cx.2.1 dX12_localsOf_19 (by decide) ?_
    exact J20 σ0 a1 0 v3 _ _ _ h hw (lv_sub hl [0, 1] rfl)
  · have h := md_ip c12 h
    refine lv_iconst (v := 1) cx.1 cx.2.1 dX12_localsOf_15 (by decide) ?_
    refine lv_goto (tgt := 20) cx.1 cx.2.1 dX12_localsOf_16 (by decide) ?_
    exact J20 σ0 a1 1 v3 _ _ _ h hw (lv_sub hl [0, 1] rfl)
set_option maxHeartbeats 4000000 in
set_option maxRecDepth 100000 in
theorem km_X12_begins (l : Launch) (D : va_G) (cA : Nat → ClassId) (E : hp_N) (sz : Nat) (ad : Nat → Nat) (hj : md_inj ad) (hE : md_E E) (n : Nat) (σ0 : md_S) (a1 : Int32) (a2 : Int32) (p : (Int32 × md_S)) (h : f_X12_begins n σ0 a1 a2 = some p) : Met l yX12_begins (Cond.code yX12_begins cX12_begins 3 none :: v_MOD) ({ frames := 3, cells := 0, slots := 0, locals := 64 }) (hp_Pc D vwCl (hp_Tl cA) E sz (md_pic cA ad σ0) [.ref (ad 137), .int a1, .int a2]) (hp_Qv D vwCl (hp_Tl cA) sz (md_pic cA ad σ0) (fun u => u = md_pic cA ad p.2)) 0 0 (hp_A (md_pic cA ad σ0) sz) := by
  refine hp_ofW (cc := cX12_begins) (maxL := 3) (ret := none) (by decide) rfl (Nat.le_of_ble_eq_true rfl) ?_
  intro pp ee ss mm bb mt cd ls cx hsz hw hl
  have hl : lv_has ls 3 [(0, .ref (ad 137)), (1, .int a1), (2, .int a2)] := hl
  have J35 : ∀ (σ : md_S) (l1 : Int32) (H : Heap) (locs : List Loc) (ls : Array Slot), f_X12_begins_J35 n σ l1 = some p → hp_w D vwCl (hp_Tl cA) E (hp_A (md_pic cA ad σ0) sz) ss H locs (md_pic cA ad σ) → lv_has ls 3 [(0, .ref (ad 137)), (1, .int l1)] → W pp l ee ({ frames := 3, cells := 0, slots := 0, locals := 64 }) ss mm [.ref (ad 137), .int a1, .int a2].toArray bb mt cd H locs 0 0 (MQ bb (hp_Qv D vwCl (hp_Tl cA) sz (md_pic cA ad σ0) (fun u => u = md_pic cA ad p.2)) [.ref (ad 137), .int a1, .int a2].toArray ss 0 0 (hp_A (md_pic cA ad σ0) sz)) (F0 mm 35 ls []) := by
    intro σ l1 H locs ls h hw hl
    refine lv_aload_n cx.1 cx.2.1 dX12_begins_35 rfl (lv_at hl 0 rfl) ?_
    refine lv_iload_n cx.1 cx.2.1 dX12_begins_36 rfl (lv_at hl 1 rfl) ?_
    obtain ⟨p1, e_p1, h⟩ := md_ob h
    refine hp_callVv (As := [.int l1]) (rest := []) cx hw (km_X12_put l D cA E _ ad hj hE n σ l1 p1 e_p1) (cwV 1 cx.2.2.2.2.2.1 (md_giV mm_395 mm_396 mm_397 mm_5 mm_398) rfl rfl rfl hd_X12_put ⟨Nat.le_of_ble_eq_true rfl, Nat.le_of_ble_eq_true rfl⟩) md_at0 rfl rfl hl.1 rfl (Nat.le_of_ble_eq_true rfl) dX12_begins_37 ⟨Nat.le_refl _, Nat.le_refl _⟩ (fun u H locs hp hw => ?_)
    obtain rfl := hp
    exact hp_vret cx hw (md_retv h) dX12_begins_40
  refine lv_aload_n cx.1 cx.2.1 dX12_begins_0 rfl (lv_at hl 0 rfl) ?_
  refine md_gI (k := 78) cx hw hin12c rfl (by decide) (List.mem_cons_of_mem _ mm_409) dX12_begins_1 ?_
  refine lv_if_eq (tgt := 35) cx.1 cx.2.1 dX12_begins_4 (by decide) (fun c4 => ?_) (fun c4 => ?_)
  · have h := md_ip c4 h
    exact J35 σ0 a1 _ _ _ h hw (lv_sub hl [0, 1] rfl)
  · have h := md_in c4 h
    refine lv_iload_n cx.1 cx.2.1 dX12_begins_7 rfl (lv_at hl 2 rfl) ?_
    refine lv_if_eq (tgt := 35) cx.1 cx.2.1 dX12_begins_8 (by decide) (fun c8 => ?_) (fun c8 => ?_)
    · have h := md_ip c8 h
      exact J35 σ0 a1 _ _ _ h hw (lv_sub hl [0, 1] rfl)
    · have h := md_in c8 h
      refine lv_aload_n cx.1 cx.2.1 dX12_begins_11 rfl (lv_at hl 0 rfl) ?_
      refine lv_iconst (v := 2) cx.1 cx.2.1 dX12_begins_12 (by decide) ?_
      refine lv_aload_n cx.1 cx.2.1 dX12_begins_13 rfl (lv_at hl 0 rfl) ?_
      refine lv_aload_n cx.1 cx.2.1 dX12_begins_14 rfl (lv_at hl 0 rfl) ?_
      refine md_gI (k := 79) cx hw hin12c rfl (by decide) (List.mem_cons_of_mem _ mm_410) dX12_begins_15 ?_
      obtain ⟨p2, e_p2, h⟩ := md_ob h
      refine hp_callVi (As := [.int (mI σ0 79)]) (rest := [.int 2, .ref (ad 137)]) cx hw (km_X12_localsOf l D cA E _ ad hj hE n σ0 ((mI σ0 79)) p2 e_p2) (cwV 1 cx.2.2.2.2.2.1 (md_giV mm_411 mm_412 mm_413 mm_5 mm_414) rfl rfl rfl hd_X12_localsOf ⟨Nat.le_of_ble_eq_true rfl, Nat.le_of_ble_eq_true rfl⟩) md_at0 rfl rfl hl.1 rfl (Nat.le_of_ble_eq_true rfl) dX12_begins_18 ⟨Nat.le_refl _, Nat.le_refl _⟩ (fun r u H locs hp hw => ?_)
      obtain ⟨rfl, rfl⟩ := hp
      obtain ⟨p3, e_p3, h⟩ := md_ob h
      refine hp_callVv (As := [.int 2, .int p2.1]) (rest := []) cx hw (km_X12_put_ l D cA E _ ad hj hE n p2.2 (2 : Int32) (p2.1) p3 e_p3) (cwV 2 cx.2.2.2.2.2.1 (md_giV mm_403 mm_404 mm_405 mm_5 mm_406) rfl rfl rfl hd_X12_put_ ⟨Nat.le_of_ble_eq_true rfl, Nat.le_of_ble_eq_true rfl⟩) md_at0 rfl rfl hl.1 rfl (Nat.le_of_ble_eq_true rfl) dX12_begins_21 ⟨Nat.le_refl _, Nat.le_refl _⟩ (fun u H locs hp hw => ?_)
      obtain rfl := hp
      refine lv_aload_n cx.1 cx.2.1 dX12_begins_24 rfl (lv_at hl 0 rfl) ?_
      refine lv_iload_n cx.1 cx.2.1 dX12_begins_25 rfl (lv_at hl 1 rfl) ?_
      refine lv_bipush (v := 64) cx.1 cx.2.1 dX12_begins_26 (by decide) ?_
      refine lv_iadd cx.1 cx.2.1 dX12_begins_28 ?_
      obtain ⟨p4, e_p4, h⟩ := md_ob h
      refine hp_callVv (As := [.int (a1 + 64)]) (rest := []) cx hw (km_X12_put l D cA E _ ad hj hE n p3.2 ((a1 + 64)) p4 e_p4) (cwV 1 cx.2.2.2.2.2.1 (md_giV mm_395 mm_396 mm_397 mm_5 mm_398) rfl rfl rfl hd_X12_put ⟨Nat.le_of_ble_eq_true rfl, Nat.le_of_ble_eq_true rfl⟩) md_at0 rfl rfl hl.1 rfl (Nat.le_of_ble_eq_true rfl) dX12_begins_29 ⟨Nat.le_refl _, Nat.le_refl _⟩ (fun u H locs hp hw => ?_)
      obtain rfl := hp
      refine lv_goto (tgt := 40) cx.1 cx.2.1 dX12_begins_32 (by decide) ?_
      exact hp_vret cx hw (md_retv h) dX12_begins_40
set_option maxHeartbeats 4000000 in
set_option maxRecDepth 100000 in
theorem km_X12_localOf (l : Launch) (D : va_G) (cA : Nat → ClassId) (E : hp_N) (sz : Nat) (ad : Nat → Nat) (hj : md_inj ad) (hE : md_E E) (n : Nat) (σ0 : md_S) (a1 : Int32) (a2 : Int32) (p : (Int32 × md_S)) (h : f_X12_localOf n σ0 a1 a2 = some p) : Met l yX12_localOf (Cond.code yX12_localOf cX12_localOf 4 (some .int) :: v_MOD) ({ frames := 0, cells := 0, slots := 0, locals := 0 }) (hp_Pc D vwCl (hp_Tl cA) E sz (md_pic cA ad σ0) [.ref (ad 137), .int a1, .int a2]) (hp_Qi D vwCl (hp_Tl cA) sz (md_pic cA ad σ0) (fun r u => r = p.1 ∧ u = md_pic cA ad p.2)) 0 0 (hp_A (md_pic cA ad σ0) sz) := by
  refine hp_ofW (cc := cX12_localOf) (maxL := 4) (ret := (some .int)) (by decide) rfl (Nat.le_of_ble_eq_true rfl) ?_
  intro pp ee ss mm bb mt cd ls cx hsz hw hl
  have hl : lv_has ls 4 [(0, .ref (ad 137)), (1, .int a1), (2, .int a2)] := hl
  have J82 : ∀ (σ : md_S) (t0 : Int32) (t1 : Int32) (H : Heap) (locs : List Loc) (ls : Array Slot), f_X12_localOf_J82 n σ t0 t1 = some p → hp_w D vwCl (hp_Tl cA) E (hp_A (md_pic cA ad σ0) sz) ss H locs (md_pic cA ad σ) → lv_has ls 4 [] → W pp l ee ({ frames := 0, cells := 0, slots := 0, locals := 0 }) ss mm [.ref (ad 137), .int a1, .int a2].toArray bb mt cd H locs 0 0 (MQ bb (hp_Qi D vwCl (hp_Tl cA) sz (md_pic cA ad σ0) (fun r u => r = p.1 ∧ u = md_pic cA ad p.2)) [.ref (ad 137), .int a1, .int a2].toArray ss 0 0 (hp_A (md_pic cA ad σ0) sz)) (F0 mm 82 ls [.int t0, .int t1]) := by
    intro σ t0 t1 H locs ls h hw hl
    refine lv_iadd cx.1 cx.2.1 dX12_localOf_82 ?_
    exact hp_iret cx hw (md_ret h) dX12_localOf_83
  have J77 : ∀ (σ : md_S) (t0 : Int32) (t1 : Int32) (t2 : Int32) (H : Heap) (locs : List Loc) (ls : Array Slot), f_X12_localOf_J77 n σ t0 t1 t2 = some p → hp_w D vwCl (hp_Tl cA) E (hp_A (md_pic cA ad σ0) sz) ss H locs (md_pic cA ad σ) → lv_has ls 4 [] → W pp l ee ({ frames := 0, cells := 0, slots := 0, locals := 0 }) ss mm [.ref (ad 137), .int a1, .int a2].toArray bb mt cd H locs 0 0 (MQ bb (hp_Qi D vwCl (hp_Tl cA) sz (md_pic cA ad σ0) (fun r u => r = p.1 ∧ u = md_pic cA ad p.2)) [.ref (ad 137), .int a1, .int a2].toArray ss 0 0 (hp_A (md_pic cA ad σ0) sz)) (F0 mm 77 ls [.int t0, .int t1, .int t2]) := by
    intro σ t0 t1 t2 H locs ls h hw hl
    refine lv_iadd cx.1 cx.2.1 dX12_localOf_77 ?_
    refine lv_goto (tgt := 82) cx.1 cx.2.1 dX12_localOf_78 (by decide) ?_
    exact J82 σ ((t1 + t0)) t2 _ _ _ h hw (lv_sub hl [] rfl)
  refine lv_iconst (v := 0) cx.1 cx.2.1 dX12_localOf_0 (by decide) ?_
  refine lv_istore_n (lv' := [(3, .int 0), (0, .ref (ad 137)), (1, .int a1), (2, .int a2)]) cx.1 cx.2.1 dX12_localOf_1 rfl hl (by decide) rfl (fun ls hl => ?_)
  have L2 : ∀ (j : Nat) (σ : md_S) (l1 : Int32) (l2 : Int32) (l3 : Int32) (q : ((Int32 × md_S) ⊕ (md_S × Int32))) (H : Heap) (locs : List Loc) (ls : Array Slot), f_X12_localOf_L2 n l1 l2 j σ l3 = some q → hp_w D vwCl (hp_Tl cA) E (hp_A (md_pic cA ad σ0) sz) ss H locs (md_pic cA ad σ) → lv_has ls 4 [(0, .ref (ad 137)), (1, .int l1), (2, .int l2), (3, .int l3)] → (∀ t, q = Sum.inr t → ∀ (H : Heap) (locs : List Loc) (ls : Array Slot), hp_w D vwCl (hp_Tl cA) E (hp_A (md_pic cA ad σ0) sz) ss H locs (md_pic cA ad t.1) → lv_has ls 4 [(0, .ref (ad 137)), (1, .int l1), (2, .int l2)] → W pp l ee ({ frames := 0, cells := 0, slots := 0, locals := 0 }) ss mm [.ref (ad 137), .int a1, .int a2].toArray bb mt cd H locs 0 0 (MQ bb (hp_Qi D vwCl (hp_Tl cA) sz (md_pic cA ad σ0) (fun r u => r = p.1 ∧ u = md_pic cA ad p.2)) [.ref (ad 137), .int a1, .int a2].toArray ss 0 0 (hp_A (md_pic cA ad σ0) sz)) (F0 mm 35 ls [])) → (∀ r, q = Sum.inl r → r = p) → W pp l ee ({ frames := 0, cells := 0, slots := 0, locals := 0 }) ss mm [.ref (ad 137), .int a1, .int a2].toArray bb mt cd H locs 0 0 (MQ bb (hp_Qi D vwCl (hp_Tl cA) sz (md_pic cA ad σ0) (fun r u => r = p.1 ∧ u = md_pic cA ad p.2)) [.ref (ad 137), .int a1, .int a2].toArray ss 0 0 (hp_A (md_pic cA ad σ0) sz)) (F0 mm 2 ls []) := by
    intro j
    induction j with
    | zero => intro σ l1 l2 l3 q H locs ls h; exact nomatch h
    | succ j ih =>
      intro σ l1 l2 l3 q H locs ls h hw hl K KR
      refine lv_iload_n cx.1 cx.2.1 dX12_localOf_2 rfl (lv_at hl 3 rfl) ?_
      refine lv_aload_n cx.1 cx.2.1 dX12_localOf_3 rfl (lv_at hl 0 rfl) ?_
      refine md_gR (k := 44) cx hw hin12c (by decide) (by decide) (List.mem_cons_of_mem _ mm_246) dX12_localOf_4 ?_
      refine lv_iload_n cx.1 cx.2.1 dX12_localOf_7 rfl (lv_at hl 1 rfl) ?_
      obtain ⟨v1, e_v1, h⟩ := md_ob h
      refine md_lI (k := 44) hj cx hw (by decide) rfl rfl rfl e_v1 dX12_localOf_8 ?_
      refine lv_icmp_ge (tgt := 35) cx.1 cx.2.1 dX12_localOf_9 (by decide) (fun c9 => ?_) (fun c9 => ?_)
      · have h := md_ip c9 h
        exact K _ (Option.some.inj h).symm _ _ _ hw (lv_sub hl [0, 1, 2] rfl)
      · have h := md_in c9 h
        refine lv_aload_n cx.1 cx.2.1 dX12_localOf_12 rfl (lv_at hl 0 rfl) ?_
        refine md_gR (k := 45) cx hw hin12c (by decide) (by decide) (List.mem_cons_of_mem _ mm_266) dX12_localOf_13 ?_
        refine lv_bipush (v := 16) cx.1 cx.2.1 dX12_localOf_16 (by decide) ?_
        refine lv_iload_n cx.1 cx.2.1 dX12_localOf_18 rfl (lv_at hl 1 rfl) ?_
        refine lv_imul cx.1 cx.2.1 dX12_localOf_19 ?_
        refine lv_iload_n cx.1 cx.2.1 dX12_localOf_20 rfl (lv_at hl 3 rfl) ?_
        refine lv_iadd cx.1 cx.2.1 dX12_localOf_21 ?_
        obtain ⟨v2, e_v2, h⟩ := md_ob h
        refine md_lI (k := 45) hj cx hw (by decide) rfl rfl rfl e_v2 dX12_localOf_22 ?_
        refine lv_iload_n cx.1 cx.2.1 dX12_localOf_23 rfl (lv_at hl 2 rfl) ?_
        refine lv_icmp_ne (tgt := 29) cx.1 cx.2.1 dX12_localOf_24 (by decide) (fun c24 => ?_) (fun c24 => ?_)
        · have h := md_in c24 h
          refine lv_iinc (v := (l3 + 1)) (lv' := [(3, .int (l3 + 1)), (0, .ref (ad 137)), (1, .int l1), (2, .int l2)]) cx.1 cx.2.1 dX12_localOf_29 hl (k := 3) rfl rfl (by decide) rfl (fun ls hl => ?_)
          refine lv_goto (tgt := 2) cx.1 cx.2.1 dX12_localOf_32 (by decide) ?_
          exact ih σ l1 l2 ((l3 + 1)) q _ _ _ h hw (lv_sub hl [1, 2, 3, 0] rfl) K KR
        · have h := md_ip c24 h
          refine lv_iload_n cx.1 cx.2.1 dX12_localOf_27 rfl (lv_at hl 3 rfl) ?_
          exact hp_iret cx hw (md_ret (congrArg some (KR _ (Option.some.inj h).symm))) dX12_localOf_28
  obtain ⟨q3, e_q3, h⟩ := md_ob h
  refine L2 n σ0 a1 a2 0 q3 _ _ _ e_q3 hw (lv_sub hl [1, 2, 3, 0] rfl) (fun t3 hq3 H locs ls hw hl => ?_) (fun r hr => by subst hr; exact Option.some.inj h)
  subst hq3
  have h := md_inr h
  refine lv_aload_n cx.1 cx.2.1 dX12_localOf_35 rfl (lv_at hl 0 rfl) ?_
  refine md_gR (k := 44) cx hw hin12c (by decide) (by decide) (List.mem_cons_of_mem _ mm_246) dX12_localOf_36 ?_
  refine lv_iload_n cx.1 cx.2.1 dX12_localOf_39 rfl (lv_at hl 1 rfl) ?_
  obtain ⟨v4, e_v4, h⟩ := md_ob h
  refine md_lI (k := 44) hj cx hw (by decide) rfl rfl rfl e_v4 dX12_localOf_40 ?_
  refine lv_aload_n cx.1 cx.2.1 dX12_localOf_41 rfl (lv_at hl 0 rfl) ?_
  refine md_gR (k := 53) cx hw hin12c (by decide) (by decide) (List.mem_cons_of_mem _ mm_212) dX12_localOf_42 ?_
  refine lv_iload_n cx.1 cx.2.1 dX12_localOf_45 rfl (lv_at hl 2 rfl) ?_
  obtain ⟨v5, e_v5, h⟩ := md_ob h
  refine md_lI (k := 53) hj cx hw (by decide) rfl rfl rfl e_v5 dX12_localOf_46 ?_
  refine lv_iadd cx.1 cx.2.1 dX12_localOf_47 ?_
  refine lv_aload_n cx.1 cx.2.1 dX12_localOf_48 rfl (lv_at hl 0 rfl) ?_
  refine md_gR (k := 54) cx hw hin12c (by decide) (by decide) (List.mem_cons_of_mem _ mm_213) dX12_localOf_49 ?_
  refine lv_iload_n cx.1 cx.2.1 dX12_localOf_52 rfl (lv_at hl 2 rfl) ?_
  obtain ⟨v6, e_v6, h⟩ := md_ob h
  refine md_lZ (k := 54) hj cx hw (by decide) rfl rfl rfl e_v6 dX12_localOf_53 ?_
  refine lv_if_eq (tgt := 81) cx.1 cx.2.1 dX12_localOf_54 (by decide) (fun c54 => ?_) (fun c54 => ?_)
  · have h := md_ip c54 h
    refine lv_iconst (v := 0) cx.1 cx.2.1 dX12_localOf_81 (by decide) ?_
    exact J82 t3.1 0 ((v4 + v5)) _ _ _ h hw (lv_sub hl [] rfl)
  · have h := md_in c54 h
    refine lv_aload_n cx.1 cx.2.1 dX12_localOf_57 rfl (lv_at hl 0 rfl) ?_
    refine md_gR (k := 39) cx hw hin12c (by decide) (by decide) (List.mem_cons_of_mem _ mm_140) dX12_localOf_58 ?_
    refine lv_iload_n cx.1 cx.2.1 dX12_localOf_61 rfl (lv_at hl 1 rfl) ?_
    obtain ⟨v7, e_v7, h⟩ := md_ob h
    refine md_lI (k := 39) hj cx hw (by decide) rfl rfl rfl e_v7 dX12_localOf_62 ?_
    refine lv_aload_n cx.1 cx.2.1 dX12_localOf_63 rfl (lv_at hl 0 rfl) ?_
    refine md_gR (k := 36) cx hw hin12c (by decide) (by decide) (List.mem_cons_of_mem _ mm_139) dX12_localOf_64 ?_
    refine lv_iload_n cx.1 cx.2.1 dX12_localOf_67 rfl (lv_at hl 1 rfl) ?_
    obtain ⟨v8, e_v8, h⟩ := md_ob h
    refine md_lI (k := 36) hj cx hw (by decide) rfl rfl rfl e_v8 dX12_localOf_68 ?_
    refine lv_if_ne (tgt := 76) cx.1 cx.2.1 dX12_localOf_69 (by decide) (fun c69 => ?_) (fun c69 => ?_)
    · have h := md_in c69 h
      refine lv_iconst (v := 0) cx.1 cx.2.1 dX12_localOf_76 (by decide) ?_
      exact J77 t3.1 0 v7 ((v4 + v5)) _ _ _ h hw (lv_sub hl [] rfl)
    · have h := md_ip c69 h
      refine lv_iconst (v := 1) cx.1 cx.2.1 dX12_localOf_72 (by decide) ?_
      refine lv_goto (tgt := 77) cx.1 cx.2.1 dX12_localOf_73 (by decide) ?_
      exact J77 t3.1 1 v7 ((v4 + v5)) _ _ _ h hw (lv_sub hl [] rfl)
set_option maxHeartbeats 4000000 in
set_option maxRecDepth 100000 in
theorem km_X12_codeBegin (l : Launch) (D : va_G) (cA : Nat → ClassId) (E : hp_N) (sz : Nat) (ad : Nat → Nat) (hj : md_inj ad) (hE : md_E E) (n : Nat) (σ0 : md_S) (p : (Int32 × md_S)) (h : f_X12_codeBegin n σ0 = some p) : Met l yX12_codeBegin (Cond.code yX12_codeBegin cX12_codeBegin 1 (some .int) :: v_MOD) ({ frames := 0, cells := 0, slots := 0, locals := 0 }) (hp_Pc D vwCl (hp_Tl cA) E sz (md_pic cA ad σ0) [.ref (ad 137)]) (hp_Qi D vwCl (hp_Tl cA) sz (md_pic cA ad σ0) (fun r u => r = p.1 ∧ u = md_pic cA ad p.2)) 0 0 (hp_A (md_pic cA ad σ0) sz) := by
  refine hp_ofW (cc := cX12_codeBegin) (maxL := 1) (ret := (some .int)) (by decide) rfl (Nat.le_of_ble_eq_true rfl) ?_
  intro pp ee ss mm bb mt cd ls cx hsz hw hl
  have hl : lv_has ls 1 [(0, .ref (ad 137))] := hl
  have J22 : ∀ (σ : md_S) (t0 : Int32) (t1 : Int32) (H : Heap) (locs : List Loc) (ls : Array Slot), f_X12_codeBegin_J22 n σ t0 t1 = some p → hp_w D vwCl (hp_Tl cA) E (hp_A (md_pic cA ad σ0) sz) ss H locs (md_pic cA ad σ) → lv_has ls 1 [] → W pp l ee ({ frames := 0, cells := 0, slots := 0, locals := 0 }) ss mm [.ref (ad 137)].toArray bb mt cd H locs 0 0 (MQ bb (hp_Qi D vwCl (hp_Tl cA) sz (md_pic cA ad σ0) (fun r u => r = p.1 ∧ u = md_pic cA ad p.2)) [.ref (ad 137)].toArray ss 0 0 (hp_A (md_pic cA ad σ0) sz)) (F0 mm 22 ls [.int t0, .int t1, .ref (ad 76)]) := by
    intro σ t0 t1 H locs ls h hw hl
    refine lv_iadd cx.1 cx.2.1 dX12_codeBegin_22 ?_
    obtain ⟨v1, e_v1, h⟩ := md_ob h
    refine md_lI (k := 76) hj cx hw (by decide) rfl rfl rfl e_v1 dX12_codeBegin_23 ?_
    exact hp_iret cx hw (md_ret h) dX12_codeBegin_24
  refine lv_aload_n cx.1 cx.2.1 dX12_codeBegin_0 rfl (lv_at hl 0 rfl) ?_
  refine md_gR (k := 76) cx hw hin12c (by decide) (by decide) (List.mem_cons_of_mem _ mm_415) dX12_codeBegin_1 ?_
  refine lv_iconst (v := 2) cx.1 cx.2.1 dX12_codeBegin_4 (by decide) ?_
  refine lv_aload_n cx.1 cx.2.1 dX12_codeBegin_5 rfl (lv_at hl 0 rfl) ?_
  refine md_gI (k := 79) cx hw hin12c rfl (by decide) (List.mem_cons_of_mem _ mm_410) dX12_codeBegin_6 ?_
  refine lv_imul cx.1 cx.2.1 dX12_codeBegin_9 ?_
  refine lv_aload_n cx.1 cx.2.1 dX12_codeBegin_10 rfl (lv_at hl 0 rfl) ?_
  refine md_gI (k := 78) cx hw hin12c rfl (by decide) (List.mem_cons_of_mem _ mm_409) dX12_codeBegin_11 ?_
  refine lv_if_eq (tgt := 21) cx.1 cx.2.1 dX12_codeBegin_14 (by decide) (fun c14 => ?_) (fun c14 => ?_)
  · have h := md_ip c14 h
    refine lv_iconst (v := 0) cx.1 cx.2.1 dX12_codeBegin_21 (by decide) ?_
    exact J22 σ0 0 (((2 : Int32) * (mI σ0 79))) _ _ _ h hw (lv_sub hl [] rfl)
  · have h := md_in c14 h
    refine lv_iconst (v := 1) cx.1 cx.2.1 dX12_codeBegin_17 (by decide) ?_
    refine lv_goto (tgt := 22) cx.1 cx.2.1 dX12_codeBegin_18 (by decide) ?_
    exact J22 σ0 1 (((2 : Int32) * (mI σ0 79))) _ _ _ h hw (lv_sub hl [] rfl)
set_option maxHeartbeats 4000000 in
set_option maxRecDepth 100000 in
theorem km_X12_fill (l : Launch) (D : va_G) (cA : Nat → ClassId) (E : hp_N) (sz : Nat) (ad : Nat → Nat) (hj : md_inj ad) (hE : md_E E) (n : Nat) (σ0 : md_S) (a1 : Int32) (p : (Int32 × md_S)) (h : f_X12_fill n σ0 a1 = some p) : Met l yX12_fill (Cond.code yX12_fill cX12_fill 3 none :: v_MOD) ({ frames := 1, cells := 0, slots := 0, locals := 20 }) (hp_Pc D vwCl (hp_Tl cA) E sz (md_pic cA ad σ0) [.ref (ad 137), .int a1]) (hp_Qv D vwCl (hp_Tl cA) sz (md_pic cA ad σ0) (fun u => u = md_pic cA ad p.2)) 0 0 (hp_A (md_pic cA ad σ0) sz) := by
  refine hp_ofW (cc := cX12_fill) (maxL := 3) (ret := none) (by decide) rfl (Nat.le_of_ble_eq_true rfl) ?_
  intro pp ee ss mm bb mt cd ls cx hsz hw hl
  have hl : lv_has ls 3 [(0, .ref (ad 137)), (1, .int a1)] := hl
  refine lv_aload_n cx.1 cx.2.1 dX12_fill_0 rfl (lv_at hl 0 rfl) ?_
  refine md_gI (k := 75) cx hw hin12c rfl (by decide) (List.mem_cons_of_mem _ mm_394) dX12_fill_1 ?_
  refine lv_aload_n cx.1 cx.2.1 dX12_fill_4 rfl (lv_at hl 0 rfl) ?_
  obtain ⟨p1, e_p1, h⟩ := md_ob h
  refine hp_callVi (As := []) (rest := [.int (mI σ0 75)]) cx hw (km_X12_codeBegin l D cA E _ ad hj hE n σ0  p1 e_p1) (cwV 0 cx.2.2.2.2.2.1 (md_giV mm_416 mm_417 mm_418 mm_5 mm_419) rfl rfl rfl hd_X12_codeBegin ⟨Nat.le_of_ble_eq_true rfl, Nat.le_of_ble_eq_true rfl⟩) md_at0 rfl rfl hl.1 rfl (Nat.le_of_ble_eq_true rfl) dX12_fill_5 ⟨Nat.le_refl _, Nat.le_refl _⟩ (fun r u H locs hp hw => ?_)
  obtain ⟨rfl, rfl⟩ := hp
  refine lv_isub cx.1 cx.2.1 dX12_fill_8 ?_
  refine lv_istore_n (lv' := [(2, .int ((mI σ0 75) - p1.1)), (0, .ref (ad 137)), (1, .int a1)]) cx.1 cx.2.1 dX12_fill_9 rfl hl (by decide) rfl (fun ls hl => ?_)
  refine lv_aload_n cx.1 cx.2.1 dX12_fill_10 rfl (lv_at hl 1 rfl) ?_
  refine md_gR (k := 74) cx hw hin12c (by decide) (by decide) (List.mem_cons_of_mem _ mm_393) dX12_fill_11 ?_
  refine lv_iload_n cx.1 cx.2.1 dX12_fill_14 rfl (lv_at hl 2 rfl) ?_
  refine lv_iload_n cx.1 cx.2.1 dX12_fill_15 rfl (lv_at hl 0 rfl) ?_
  refine lv_bipush (v := 8) cx.1 cx.2.1 dX12_fill_16 (by decide) ?_
  refine lv_ishr cx.1 cx.2.1 dX12_fill_18 ?_
  refine lv_i2b (v := ((((mI σ0 75) - p1.1) >>> (8 &&& 31)).toInt8.toInt32)) cx.1 cx.2.1 dX12_fill_19 rfl ?_
  obtain ⟨σ2, e_σ2, h⟩ := md_ob h
  refine md_sB (k := 74) hj cx hw (by decide) rfl rfl rfl e_σ2 dX12_fill_20 (fun H locs hw => ?_)
  refine lv_aload_n cx.1 cx.2.1 dX12_fill_21 rfl (lv_at hl 1 rfl) ?_
  refine md_gR (k := 74) cx hw hin12c (by decide) (by decide) (List.mem_cons_of_mem _ mm_393) dX12_fill_22 ?_
  refine lv_iload_n cx.1 cx.2.1 dX12_fill_25 rfl (lv_at hl 2 rfl) ?_
  refine lv_iconst (v := 1) cx.1 cx.2.1 dX12_fill_26 (by decide) ?_
  refine lv_iadd cx.1 cx.2.1 dX12_fill_27 ?_
  refine lv_iload_n cx.1 cx.2.1 dX12_fill_28 rfl (lv_at hl 0 rfl) ?_
  refine lv_i2b (v := (((mI σ0 75) - p1.1).toInt8.toInt32)) cx.1 cx.2.1 dX12_fill_29 rfl ?_
  obtain ⟨σ3, e_σ3, h⟩ := md_ob h
  refine md_sB (k := 74) hj cx hw (by decide) rfl rfl rfl e_σ3 dX12_fill_30 (fun H locs hw => ?_)
  exact hp_vret cx hw (md_retv h) dX12_fill_31
set_option maxHeartbeats 4000000 in
set_option maxRecDepth 100000 in
theorem km_X12_gap (l : Launch) (D : va_G) (cA : Nat → ClassId) (E : hp_N) (sz : Nat) (ad : Nat → Nat) (hj : md_inj ad) (hE : md_E E) (n : Nat) (σ0 : md_S) (a1 : Int32) (p : (Int32 × md_S)) (h : f_X12_gap n σ0 a1 = some p) : Met l yX12_gap (Cond.code yX12_gap cX12_gap 2 (some .int) :: v_MOD) ({ frames := 3, cells := 0, slots := 0, locals := 64 }) (hp_Pc D vwCl (hp_Tl cA) E sz (md_pic cA ad σ0) [.ref (ad 137), .int a1]) (hp_Qi D vwCl (hp_Tl cA) sz (md_pic cA ad σ0) (fun r u => r = p.1 ∧ u = md_pic cA ad p.2)) 0 0 (hp_A (md_pic cA ad σ0) sz) := by
  refine hp_ofW (cc := cX12_gap) (maxL := 2) (ret := (some .int)) (by decide) rfl (Nat.le_of_ble_eq_true rfl) ?_
  intro pp ee ss mm bb mt cd ls cx hsz hw hl
  have hl : lv_has ls 2 [(0, .ref (ad 137)), (1, .int a1)] := hl
  refine lv_aload_n cx.1 cx.2.1 dX12_gap_0 rfl (lv_at hl 0 rfl) ?_
  refine lv_iload_n cx.1 cx.2.1 dX12_gap_1 rfl (lv_at hl 1 rfl) ?_
  refine lv_iconst (v := 0) cx.1 cx.2.1 dX12_gap_2 (by decide) ?_
  obtain ⟨p1, e_p1, h⟩ := md_ob h
  refine hp_callVv (As := [.int a1, .int 0]) (rest := []) cx hw (km_X12_put_ l D cA E _ ad hj hE n σ0 a1 (0 : Int32) p1 e_p1) (cwV 2 cx.2.2.2.2.2.1 (md_giV mm_403 mm_404 mm_405 mm_5 mm_406) rfl rfl rfl hd_X12_put_ ⟨Nat.le_of_ble_eq_true rfl, Nat.le_of_ble_eq_true rfl⟩) md_at0 rfl rfl hl.1 rfl (Nat.le_of_ble_eq_true rfl) dX12_gap_3 ⟨Nat.le_refl _, Nat.le_refl _⟩ (fun u H locs hp hw => ?_)
  obtain rfl := hp
  refine lv_aload_n cx.1 cx.2.1 dX12_gap_6 rfl (lv_at hl 0 rfl) ?_
  refine md_gI (k := 75) cx hw hin12c rfl (by decide) (List.mem_cons_of_mem _ mm_394) dX12_gap_7 ?_
  refine lv_iconst (v := 2) cx.1 cx.2.1 dX12_gap_10 (by decide) ?_
  refine lv_isub cx.1 cx.2.1 dX12_gap_11 ?_
  exact hp_iret cx hw (md_ret h) dX12_gap_12
set_option maxHeartbeats 4000000 in
set_option maxRecDepth 100000 in
theorem km_X12_writeIf (l : Launch) (D : va_G) (cA : Nat → ClassId) (E : hp_N) (sz : Nat) (ad : Nat → Nat) (hj : md_inj ad) (hE : md_E E) (n d : Nat) (rec : md_R) (ih0 : ∀ (sz : Nat) (σ : md_S) (b0 : Int32) (p : Int32 × md_S), rec 0 b0 0 0 σ = some p → Met l yX12_write (Cond.code yX12_write cX12_write 4 none :: v_MOD) ({ frames := d + 5, cells := 0, slots := 0, locals := 24 * d + 109 }) (hp_Pc D vwCl (hp_Tl cA) E sz (md_pic cA ad σ) [.ref (ad 137), .int b0]) (hp_Qv D vwCl (hp_Tl cA) sz (md_pic cA ad σ) (fun u => u = md_pic cA ad p.2)) 0 0 (hp_A (md_pic cA ad σ) sz)) (σ0 : md_S) (a1 : Int32) (p : (Int32 × md_S)) (h : f_X12_writeIf n rec σ0 a1 = some p) : Met l yX12_writeIf (Cond.code yX12_writeIf cX12_writeIf 4 none :: v_MOD) ({ frames := (d + 1) + 5, cells := 0, slots := 0, locals := 24 * ((d + 1)) + 109 }) (hp_Pc D vwCl (hp_Tl cA) E sz (md_pic cA ad σ0) [.ref (ad 137), .int a1]) (hp_Qv D vwCl (hp_Tl cA) sz (md_pic cA ad σ0) (fun u => u = md_pic cA ad p.2)) 0 0 (hp_A (md_pic cA ad σ0) sz) := by
  refine hp_ofW (cc := cX12_writeIf) (maxL := 4) (ret := none) (by decide) rfl (Nat.le_of_ble_eq_true rfl) ?_
  intro pp ee ss mm bb mt cd ls cx hsz hw hl
  have hl : lv_has ls 4 [(0, .ref (ad 137)), (1, .int a1)] := hl
  refine lv_aload_n cx.1 cx.2.1 dX12_writeIf_0 rfl (lv_at hl 0 rfl) ?_
  refine lv_iload_n cx.1 cx.2.1 dX12_writeIf_1 rfl (lv_at hl 1 rfl) ?_
  obtain ⟨p1, e_p1, h⟩ := md_ob h
  refine hp_callVv (As := [.int a1]) (rest := []) cx hw (ih0 _ σ0 a1 p1 e_p1) (cwV 1 cx.2.2.2.2.2.1 (md_giV mm_420 mm_421 mm_422 mm_5 mm_423) rfl rfl rfl hd_X12_write ⟨by dsimp only; omega, by dsimp only; omega⟩) md_at0 rfl rfl hl.1 rfl (Nat.le_of_ble_eq_true rfl) dX12_writeIf_2 ⟨Nat.le_refl _, Nat.le_refl _⟩ (fun u H locs hp hw => ?_)
  obtain rfl := hp
  refine lv_aload_n cx.1 cx.2.1 dX12_writeIf_5 rfl (lv_at hl 0 rfl) ?_
  refine lv_bipush (v := 18) cx.1 cx.2.1 dX12_writeIf_6 (by decide) ?_
  obtain ⟨p2, e_p2, h⟩ := md_ob h
  refine hp_callVi (As := [.int 18]) (rest := []) cx hw (km_X12_gap l D cA E _ ad hj hE n p1.2 (18 : Int32) p2 e_p2) (cwV 1 cx.2.2.2.2.2.1 (md_giV mm_424 mm_425 mm_426 mm_5 mm_427) rfl rfl rfl hd_X12_gap ⟨by dsimp only; omega, by dsimp only; omega⟩) md_at0 rfl rfl hl.1 rfl (Nat.le_of_ble_eq_true rfl) dX12_writeIf_8 ⟨Nat.le_refl _, Nat.le_refl _⟩ (fun r u H locs hp hw => ?_)
  obtain ⟨rfl, rfl⟩ := hp
  refine lv_istore_n (lv' := [(2, .int p2.1), (0, .ref (ad 137)), (1, .int a1)]) cx.1 cx.2.1 dX12_writeIf_11 rfl hl (by decide) rfl (fun ls hl => ?_)
  refine lv_aload_n cx.1 cx.2.1 dX12_writeIf_12 rfl (lv_at hl 1 rfl) ?_
  refine lv_aload_n cx.1 cx.2.1 dX12_writeIf_13 rfl (lv_at hl 1 rfl) ?_
  refine md_gR (k := 71) cx hw hin12c (by decide) (by decide) (List.mem_cons_of_mem _ mm_134) dX12_writeIf_14 ?_
  refine lv_iload_n cx.1 cx.2.1 dX12_writeIf_17 rfl (lv_at hl 2 rfl) ?_
  obtain ⟨v3, e_v3, h⟩ := md_ob h
  refine md_lI (k := 71) hj cx hw (by decide) rfl rfl rfl e_v3 dX12_writeIf_18 ?_
  obtain ⟨p4, e_p4, h⟩ := md_ob h
  refine hp_callVv (As := [.int v3]) (rest := []) cx hw (ih0 _ p2.2 v3 p4 e_p4) (cwV 1 cx.2.2.2.2.2.1 (md_giV mm_420 mm_421 mm_422 mm_5 mm_423) rfl rfl rfl hd_X12_write ⟨by dsimp only; omega, by dsimp only; omega⟩) md_at0 rfl rfl hl.1 rfl (Nat.le_of_ble_eq_true rfl) dX12_writeIf_19 ⟨Nat.le_refl _, Nat.le_refl _⟩ (fun u H locs hp hw => ?_)
  obtain rfl := hp
  refine lv_aload_n cx.1 cx.2.1 dX12_writeIf_22 rfl (lv_at hl 1 rfl) ?_
  refine lv_bipush (v := 17) cx.1 cx.2.1 dX12_writeIf_23 (by decide) ?_
  obtain ⟨p5, e_p5, h⟩ := md_ob h
  refine hp_callVi (As := [.int 17]) (rest := []) cx hw (km_X12_gap l D cA E _ ad hj hE n p4.2 (17 : Int32) p5 e_p5) (cwV 1 cx.2.2.2.2.2.1 (md_giV mm_424 mm_425 mm_426 mm_5 mm_427) rfl rfl rfl hd_X12_gap ⟨by dsimp only; omega, by dsimp only; omega⟩) md_at0 rfl rfl hl.1 rfl (Nat.le_of_ble_eq_true rfl) dX12_writeIf_25 ⟨Nat.le_refl _, Nat.le_refl _⟩ (fun r u H locs hp hw => ?_)
  obtain ⟨rfl, rfl⟩ := hp
  refine lv_istore_n (lv' := [(3, .int p5.1), (2, .int p2.1), (0, .ref (ad 137)), (1, .int a1)]) cx.1 cx.2.1 dX12_writeIf_28 rfl hl (by decide) rfl (fun ls hl => ?_)
  refine lv_aload_n cx.1 cx.2.1 dX12_writeIf_29 rfl (lv_at hl 2 rfl) ?_
  refine lv_iload_n cx.1 cx.2.1 dX12_writeIf_30 rfl (lv_at hl 1 rfl) ?_
  obtain ⟨p6, e_p6, h⟩ := md_ob h
  refine hp_callVv (As := [.int p2.1]) (rest := []) cx hw (km_X12_fill l D cA E _ ad hj hE n p5.2 (p2.1) p6 e_p6) (cwV 1 cx.2.2.2.2.2.1 (md_giV mm_428 mm_429 mm_430 mm_5 mm_431) rfl rfl rfl hd_X12_fill ⟨by dsimp only; omega, by dsimp only; omega⟩) md_at0 rfl rfl hl.1 rfl (Nat.le_of_ble_eq_true rfl) dX12_writeIf_31 ⟨Nat.le_refl _, Nat.le_refl _⟩ (fun u H locs hp hw => ?_)
  obtain rfl := hp
  refine lv_aload_n cx.1 cx.2.1 dX12_writeIf_34 rfl (lv_at hl 2 rfl) ?_
  refine lv_aload_n cx.1 cx.2.1 dX12_writeIf_35 rfl (lv_at hl 2 rfl) ?_
  refine md_gR (k := 71) cx hw hin12c (by decide) (by decide) (List.mem_cons_of_mem _ mm_134) dX12_writeIf_36 ?_
  refine lv_aload_n cx.1 cx.2.1 dX12_writeIf_39 rfl (lv_at hl 2 rfl) ?_
  refine md_gR (k := 71) cx hw hin12c (by decide) (by decide) (List.mem_cons_of_mem _ mm_134) dX12_writeIf_40 ?_
  refine lv_iload_n cx.1 cx.2.1 dX12_writeIf_43 rfl (lv_at hl 3 rfl) ?_
  obtain ⟨v7, e_v7, h⟩ := md_ob h
  refine md_lI (k := 71) hj cx hw (by decide) rfl rfl rfl e_v7 dX12_writeIf_44 ?_
  obtain ⟨v8, e_v8, h⟩ := md_ob h
  refine md_lI (k := 71) hj cx hw (by decide) rfl rfl rfl e_v8 dX12_writeIf_45 ?_
  obtain ⟨p9, e_p9, h⟩ := md_ob h
  refine hp_callVv (As := [.int v8]) (rest := []) cx hw (ih0 _ p6.2 v8 p9 e_p9) (cwV 1 cx.2.2.2.2.2.1 (md_giV mm_420 mm_421 mm_422 mm_5 mm_423) rfl rfl rfl hd_X12_write ⟨by dsimp only; omega, by dsimp only; omega⟩) md_at0 rfl rfl hl.1 rfl (Nat.le_of_ble_eq_true rfl) dX12_writeIf_46 ⟨Nat.le_refl _, Nat.le_refl _⟩ (fun u H locs hp hw => ?_)
  obtain rfl := hp
  refine lv_aload_n cx.1 cx.2.1 dX12_writeIf_49 rfl (lv_at hl 2 rfl) ?_
  refine lv_iload_n cx.1 cx.2.1 dX12_writeIf_50 rfl (lv_at hl 0 rfl) ?_
  obtain ⟨p10, e_p10, h⟩ := md_ob h
  refine hp_callVv (As := [.int p5.1]) (rest := []) cx hw (km_X12_fill l D cA E _ ad hj hE n p9.2 (p5.1) p10 e_p10) (cwV 1 cx.2.2.2.2.2.1 (md_giV mm_428 mm_429 mm_430 mm_5 mm_431) rfl rfl rfl hd_X12_fill ⟨by dsimp only; omega, by dsimp only; omega⟩) md_at0 rfl rfl hl.1 rfl (Nat.le_of_ble_eq_true rfl) dX12_writeIf_51 ⟨Nat.le_refl _, Nat.le_refl _⟩ (fun u H locs hp hw => ?_)
  obtain rfl := hp
  exact hp_vret cx hw (md_retv h) dX12_writeIf_54
set_option maxHeartbeats 4000000 in
set_option maxRecDepth 100000 in
theorem km_X12_writeTry (l : Launch) (D : va_G) (cA : Nat → ClassId) (E : hp_N) (sz : Nat) (ad : Nat → Nat) (hj : md_inj ad) (hE : md_E E) (n d : Nat) (rec : md_R) (ih0 : ∀ (sz : Nat) (σ : md_S) (b0 : Int32) (p : Int32 × md_S), rec 0 b0 0 0 σ = some p → Met l yX12_write (Cond.code yX12_write cX12_write 4 none :: v_MOD) ({ frames := d + 5, cells := 0, slots := 0, locals := 24 * d + 109 }) (hp_Pc D vwCl (hp_Tl cA) E sz (md_pic cA ad σ) [.ref (ad 137), .int b0]) (hp_Qv D vwCl (hp_Tl cA) sz (md_pic cA ad σ) (fun u => u = md_pic cA ad p.2)) 0 0 (hp_A (md_pic cA ad σ) sz)) (σ0 : md_S) (a1 : Int32) (a2 : Int32) (p : (Int32 × md_S)) (h : f_X12_writeTry n rec σ0 a1 a2 = some p) : Met l yX12_writeTry (Cond.code yX12_writeTry cX12_writeTry 5 none :: v_MOD) ({ frames := (d + 1) + 5, cells := 0, slots := 0, locals := 24 * ((d + 1)) + 109 }) (hp_Pc D vwCl (hp_Tl cA) E sz (md_pic cA ad σ0) [.ref (ad 137), .int a1, .int a2]) (hp_Qv D vwCl (hp_Tl cA) sz (md_pic cA ad σ0) (fun u => u = md_pic cA ad p.2)) 0 0 (hp_A (md_pic cA ad σ0) sz) := by
  refine hp_ofW (cc := cX12_writeTry) (maxL := 5) (ret := none) (by decide) rfl (Nat.le_of_ble_eq_true rfl) ?_
  intro pp ee ss mm bb mt cd ls cx hsz hw hl
  have hl : lv_has ls 5 [(0, .ref (ad 137)), (1, .int a1), (2, .int a2)] := hl
  refine lv_aload_n cx.1 cx.2.1 dX12_writeTry_0 rfl (lv_at hl 0 rfl) ?_
  refine lv_bipush (v := 19) cx.1 cx.2.1 dX12_writeTry_1 (by decide) ?_
  obtain ⟨p1, e_p1, h⟩ := md_ob h
  refine hp_callVi (As := [.int 19]) (rest := []) cx hw (km_X12_gap l D cA E _ ad hj hE n σ0 (19 : Int32) p1 e_p1) (cwV 1 cx.2.2.2.2.2.1 (md_giV mm_424 mm_425 mm_426 mm_5 mm_427) rfl rfl rfl hd_X12_gap ⟨by dsimp only; omega, by dsimp only; omega⟩) md_at0 rfl rfl hl.1 rfl (Nat.le_of_ble_eq_true rfl) dX12_writeTry_3 ⟨Nat.le_refl _, Nat.le_refl _⟩ (fun r u H locs hp hw => ?_)
  obtain ⟨rfl, rfl⟩ := hp
  refine lv_istore_n (lv' := [(3, .int p1.1), (0, .ref (ad 137)), (1, .int a1), (2, .int a2)]) cx.1 cx.2.1 dX12_writeTry_6 rfl hl (by decide) rfl (fun ls hl => ?_)
  refine lv_aload_n cx.1 cx.2.1 dX12_writeTry_7 rfl (lv_at hl 1 rfl) ?_
  refine lv_iload_n cx.1 cx.2.1 dX12_writeTry_8 rfl (lv_at hl 3 rfl) ?_
  obtain ⟨p2, e_p2, h⟩ := md_ob h
  refine hp_callVv (As := [.int a2]) (rest := []) cx hw (ih0 _ p1.2 a2 p2 e_p2) (cwV 1 cx.2.2.2.2.2.1 (md_giV mm_420 mm_421 mm_422 mm_5 mm_423) rfl rfl rfl hd_X12_write ⟨by dsimp only; omega, by dsimp only; omega⟩) md_at0 rfl rfl hl.1 rfl (Nat.le_of_ble_eq_true rfl) dX12_writeTry_9 ⟨Nat.le_refl _, Nat.le_refl _⟩ (fun u H locs hp hw => ?_)
  obtain rfl := hp
  refine lv_aload_n cx.1 cx.2.1 dX12_writeTry_12 rfl (lv_at hl 1 rfl) ?_
  refine lv_bipush (v := 20) cx.1 cx.2.1 dX12_writeTry_13 (by decide) ?_
  obtain ⟨p3, e_p3, h⟩ := md_ob h
  refine hp_callVv (As := [.int 20]) (rest := []) cx hw (km_X12_put l D cA E _ ad hj hE n p2.2 (20 : Int32) p3 e_p3) (cwV 1 cx.2.2.2.2.2.1 (md_giV mm_395 mm_396 mm_397 mm_5 mm_398) rfl rfl rfl hd_X12_put ⟨by dsimp only; omega, by dsimp only; omega⟩) md_at0 rfl rfl hl.1 rfl (Nat.le_of_ble_eq_true rfl) dX12_writeTry_15 ⟨Nat.le_refl _, Nat.le_refl _⟩ (fun u H locs hp hw => ?_)
  obtain rfl := hp
  refine lv_aload_n cx.1 cx.2.1 dX12_writeTry_18 rfl (lv_at hl 1 rfl) ?_
  refine lv_bipush (v := 17) cx.1 cx.2.1 dX12_writeTry_19 (by decide) ?_
  obtain ⟨p4, e_p4, h⟩ := md_ob h
  refine hp_callVi (As := [.int 17]) (rest := []) cx hw (km_X12_gap l D cA E _ ad hj hE n p3.2 (17 : Int32) p4 e_p4) (cwV 1 cx.2.2.2.2.2.1 (md_giV mm_424 mm_425 mm_426 mm_5 mm_427) rfl rfl rfl hd_X12_gap ⟨by dsimp only; omega, by dsimp only; omega⟩) md_at0 rfl rfl hl.1 rfl (Nat.le_of_ble_eq_true rfl) dX12_writeTry_21 ⟨Nat.le_refl _, Nat.le_refl _⟩ (fun r u H locs hp hw => ?_)
  obtain ⟨rfl, rfl⟩ := hp
  refine lv_istore (lv' := [(4, .int p4.1), (3, .int p1.1), (0, .ref (ad 137)), (1, .int a1), (2, .int a2)]) cx.1 cx.2.1 dX12_writeTry_24 hl (by decide) rfl (fun ls hl => ?_)
  refine lv_aload_n cx.1 cx.2.1 dX12_writeTry_26 rfl (lv_at hl 2 rfl) ?_
  refine lv_iload_n cx.1 cx.2.1 dX12_writeTry_27 rfl (lv_at hl 1 rfl) ?_
  obtain ⟨p5, e_p5, h⟩ := md_ob h
  refine hp_callVv (As := [.int p1.1]) (rest := []) cx hw (km_X12_fill l D cA E _ ad hj hE n p4.2 (p1.1) p5 e_p5) (cwV 1 cx.2.2.2.2.2.1 (md_giV mm_428 mm_429 mm_430 mm_5 mm_431) rfl rfl rfl hd_X12_fill ⟨by dsimp only; omega, by dsimp only; omega⟩) md_at0 rfl rfl hl.1 rfl (Nat.le_of_ble_eq_true rfl) dX12_writeTry_28 ⟨Nat.le_refl _, Nat.le_refl _⟩ (fun u H locs hp hw => ?_)
  obtain rfl := hp
  refine lv_aload_n cx.1 cx.2.1 dX12_writeTry_31 rfl (lv_at hl 2 rfl) ?_
  refine lv_iconst (v := 3) cx.1 cx.2.1 dX12_writeTry_32 (by decide) ?_
  refine lv_aload_n cx.1 cx.2.1 dX12_writeTry_33 rfl (lv_at hl 2 rfl) ?_
  refine lv_aload_n cx.1 cx.2.1 dX12_writeTry_34 rfl (lv_at hl 2 rfl) ?_
  refine md_gI (k := 79) cx hw hin12c rfl (by decide) (List.mem_cons_of_mem _ mm_410) dX12_writeTry_35 ?_
  refine lv_aload_n cx.1 cx.2.1 dX12_writeTry_38 rfl (lv_at hl 2 rfl) ?_
  refine md_gR (k := 68) cx hw hin12c (by decide) (by decide) (List.mem_cons_of_mem _ mm_131) dX12_writeTry_39 ?_
  refine lv_iload_n cx.1 cx.2.1 dX12_writeTry_42 rfl (lv_at hl 3 rfl) ?_
  obtain ⟨v6, e_v6, h⟩ := md_ob h
  refine md_lI (k := 68) hj cx hw (by decide) rfl rfl rfl e_v6 dX12_writeTry_43 ?_
  obtain ⟨p7, e_p7, h⟩ := md_ob h
  refine hp_callVi (As := [.int (mI p5.2 79), .int v6]) (rest := [.int 3, .ref (ad 137)]) cx hw (km_X12_localOf l D cA E _ ad hj hE n p5.2 ((mI p5.2 79)) v6 p7 e_p7) (cwV 2 cx.2.2.2.2.2.1 (md_giV mm_432 mm_433 mm_434 mm_5 mm_435) rfl rfl rfl hd_X12_localOf ⟨by dsimp only; omega, by dsimp only; omega⟩) md_at0 rfl rfl hl.1 rfl (Nat.le_of_ble_eq_true rfl) dX12_writeTry_44 ⟨Nat.le_refl _, Nat.le_refl _⟩ (fun r u H locs hp hw => ?_)
  obtain ⟨rfl, rfl⟩ := hp
  obtain ⟨p8, e_p8, h⟩ := md_ob h
  refine hp_callVv (As := [.int 3, .int p7.1]) (rest := []) cx hw (km_X12_put_ l D cA E _ ad hj hE n p7.2 (3 : Int32) (p7.1) p8 e_p8) (cwV 2 cx.2.2.2.2.2.1 (md_giV mm_403 mm_404 mm_405 mm_5 mm_406) rfl rfl rfl hd_X12_put_ ⟨by dsimp only; omega, by dsimp only; omega⟩) md_at0 rfl rfl hl.1 rfl (Nat.le_of_ble_eq_true rfl) dX12_writeTry_47 ⟨Nat.le_refl _, Nat.le_refl _⟩ (fun u H locs hp hw => ?_)
  obtain rfl := hp
  refine lv_aload_n cx.1 cx.2.1 dX12_writeTry_50 rfl (lv_at hl 2 rfl) ?_
  refine lv_aload_n cx.1 cx.2.1 dX12_writeTry_51 rfl (lv_at hl 2 rfl) ?_
  refine md_gR (k := 71) cx hw hin12c (by decide) (by decide) (List.mem_cons_of_mem _ mm_134) dX12_writeTry_52 ?_
  refine lv_iload_n cx.1 cx.2.1 dX12_writeTry_55 rfl (lv_at hl 4 rfl) ?_
  obtain ⟨v9, e_v9, h⟩ := md_ob h
  refine md_lI (k := 71) hj cx hw (by decide) rfl rfl rfl e_v9 dX12_writeTry_56 ?_
  obtain ⟨p10, e_p10, h⟩ := md_ob h
  refine hp_callVv (As := [.int v9]) (rest := []) cx hw (ih0 _ p8.2 v9 p10 e_p10) (cwV 1 cx.2.2.2.2.2.1 (md_giV mm_420 mm_421 mm_422 mm_5 mm_423) rfl rfl rfl hd_X12_write ⟨by dsimp only; omega, by dsimp only; omega⟩) md_at0 rfl rfl hl.1 rfl (Nat.le_of_ble_eq_true rfl) dX12_writeTry_57 ⟨Nat.le_refl _, Nat.le_refl _⟩ (fun u H locs hp hw => ?_)
  obtain rfl := hp
  refine lv_aload_n cx.1 cx.2.1 dX12_writeTry_60 rfl (lv_at hl 2 rfl) ?_
  refine lv_iload cx.1 cx.2.1 dX12_writeTry_61 (lv_at hl 0 rfl) ?_
  obtain ⟨p11, e_p11, h⟩ := md_ob h
  refine hp_callVv (As := [.int p4.1]) (rest := []) cx hw (km_X12_fill l D cA E _ ad hj hE n p10.2 (p4.1) p11 e_p11) (cwV 1 cx.2.2.2.2.2.1 (md_giV mm_428 mm_429 mm_430 mm_5 mm_431) rfl rfl rfl hd_X12_fill ⟨by dsimp only; omega, by dsimp only; omega⟩) md_at0 rfl rfl hl.1 rfl (Nat.le_of_ble_eq_true rfl) dX12_writeTry_63 ⟨Nat.le_refl _, Nat.le_refl _⟩ (fun u H locs hp hw => ?_)
  obtain rfl := hp
  exact hp_vret cx hw (md_retv h) dX12_writeTry_66
set_option maxHeartbeats 4000000 in
set_option maxRecDepth 100000 in
theorem km_X12_writeUnit (l : Launch) (D : va_G) (cA : Nat → ClassId) (E : hp_N) (sz : Nat) (ad : Nat → Nat) (hj : md_inj ad) (hE : md_E E) (n : Nat) (σ0 : md_S) (a1 : Int32) (a2 : Int32) (p : (Int32 × md_S)) (h : f_X12_writeUnit n σ0 a1 a2 = some p) : Met l yX12_writeUnit (Cond.code yX12_writeUnit cX12_writeUnit 4 none :: v_MOD) ({ frames := 4, cells := 0, slots := 0, locals := 86 }) (hp_Pc D vwCl (hp_Tl cA) E sz (md_pic cA ad σ0) [.ref (ad 137), .int a1, .int a2]) (hp_Qv D vwCl (hp_Tl cA) sz (md_pic cA ad σ0) (fun u => u = md_pic cA ad p.2)) 0 0 (hp_A (md_pic cA ad σ0) sz) := by
  refine hp_ofW (cc := cX12_writeUnit) (maxL := 4) (ret := none) (by decide) rfl (Nat.le_of_ble_eq_true rfl) ?_
  intro pp ee ss mm bb mt cd ls cx hsz hw hl
  have hl : lv_has ls 4 [(0, .ref (ad 137)), (1, .int a1), (2, .int a2)] := hl
  have J74 : ∀ (σ : md_S) (l2 : Int32) (t0 : Int32) (t1 : Int32) (H : Heap) (locs : List Loc) (ls : Array Slot), f_X12_writeUnit_J74 n σ l2 t0 t1 = some p → hp_w D vwCl (hp_Tl cA) E (hp_A (md_pic cA ad σ0) sz) ss H locs (md_pic cA ad σ) → lv_has ls 4 [(0, .ref (ad 137)), (2, .int l2)] → W pp l ee ({ frames := 4, cells := 0, slots := 0, locals := 86 }) ss mm [.ref (ad 137), .int a1, .int a2].toArray bb mt cd H locs 0 0 (MQ bb (hp_Qv D vwCl (hp_Tl cA) sz (md_pic cA ad σ0) (fun u => u = md_pic cA ad p.2)) [.ref (ad 137), .int a1, .int a2].toArray ss 0 0 (hp_A (md_pic cA ad σ0) sz)) (F0 mm 74 ls [.int t0, .int t1, .ref (ad 137)]) := by
    intro σ l2 t0 t1 H locs ls h hw hl
    obtain ⟨p1, e_p1, h⟩ := md_ob h
    refine hp_callVv (As := [.int t1, .int t0]) (rest := []) cx hw (km_X12_begins l D cA E _ ad hj hE n σ t1 t0 p1 e_p1) (cwV 2 cx.2.2.2.2.2.1 (md_giV mm_436 mm_437 mm_438 mm_5 mm_439) rfl rfl rfl hd_X12_begins ⟨Nat.le_of_ble_eq_true rfl, Nat.le_of_ble_eq_true rfl⟩) md_at0 rfl rfl hl.1 rfl (Nat.le_of_ble_eq_true rfl) dX12_writeUnit_74 ⟨Nat.le_refl _, Nat.le_refl _⟩ (fun u H locs hp hw => ?_)
    obtain rfl := hp
    refine lv_aload_n cx.1 cx.2.1 dX12_writeUnit_77 rfl (lv_at hl 0 rfl) ?_
    refine lv_iload_n cx.1 cx.2.1 dX12_writeUnit_78 rfl (lv_at hl 1 rfl) ?_
    obtain ⟨p2, e_p2, h⟩ := md_ob h
    refine hp_callVv (As := [.int l2]) (rest := []) cx hw (km_X12_putNumber l D cA E _ ad hj hE n p1.2 l2 p2 e_p2) (cwV 1 cx.2.2.2.2.2.1 (md_giV mm_399 mm_400 mm_401 mm_5 mm_402) rfl rfl rfl hd_X12_putNumber ⟨Nat.le_of_ble_eq_true rfl, Nat.le_of_ble_eq_true rfl⟩) md_at0 rfl rfl hl.1 rfl (Nat.le_of_ble_eq_true rfl) dX12_writeUnit_79 ⟨Nat.le_refl _, Nat.le_refl _⟩ (fun u H locs hp hw => ?_)
    obtain rfl := hp
    exact hp_vret cx hw (md_retv h) dX12_writeUnit_82
  have J73 : ∀ (σ : md_S) (l2 : Int32) (t0 : Int32) (H : Heap) (locs : List Loc) (ls : Array Slot), f_X12_writeUnit_J73 n σ l2 t0 = some p → hp_w D vwCl (hp_Tl cA) E (hp_A (md_pic cA ad σ0) sz) ss H locs (md_pic cA ad σ) → lv_has ls 4 [(0, .ref (ad 137)), (2, .int l2)] → W pp l ee ({ frames := 4, cells := 0, slots := 0, locals := 86 }) ss mm [.ref (ad 137), .int a1, .int a2].toArray bb mt cd H locs 0 0 (MQ bb (hp_Qv D vwCl (hp_Tl cA) sz (md_pic cA ad σ0) (fun u => u = md_pic cA ad p.2)) [.ref (ad 137), .int a1, .int a2].toArray ss 0 0 (hp_A (md_pic cA ad σ0) sz)) (F0 mm 73 ls [.int t0, .ref (ad 137)]) := by
    intro σ l2 t0 H locs ls h hw hl
    refine lv_iconst (v := 0) cx.1 cx.2.1 dX12_writeUnit_73 (by decide) ?_
    exact J74 σ l2 0 t0 _ _ _ h hw (lv_sub hl [0, 1] rfl)
  refine lv_iconst (v := 0) cx.1 cx.2.1 dX12_writeUnit_0 (by decide) ?_
  refine lv_istore_n (lv' := [(3, .int 0), (0, .ref (ad 137)), (1, .int a1), (2, .int a2)]) cx.1 cx.2.1 dX12_writeUnit_1 rfl hl (by decide) rfl (fun ls hl => ?_)
  have L2 : ∀ (j : Nat) (σ : md_S) (l1 : Int32) (l2 : Int32) (l3 : Int32) (q : (md_S × Int32)) (H : Heap) (locs : List Loc) (ls : Array Slot), f_X12_writeUnit_L2 n l1 l2 j σ l3 = some q → hp_w D vwCl (hp_Tl cA) E (hp_A (md_pic cA ad σ0) sz) ss H locs (md_pic cA ad σ) → lv_has ls 4 [(0, .ref (ad 137)), (1, .int l1), (2, .int l2), (3, .int l3)] → (∀ (H : Heap) (locs : List Loc) (ls : Array Slot), hp_w D vwCl (hp_Tl cA) E (hp_A (md_pic cA ad σ0) sz) ss H locs (md_pic cA ad q.1) → lv_has ls 4 [(0, .ref (ad 137)), (1, .int l1), (2, .int l2)] → W pp l ee ({ frames := 4, cells := 0, slots := 0, locals := 86 }) ss mm [.ref (ad 137), .int a1, .int a2].toArray bb mt cd H locs 0 0 (MQ bb (hp_Qv D vwCl (hp_Tl cA) sz (md_pic cA ad σ0) (fun u => u = md_pic cA ad p.2)) [.ref (ad 137), .int a1, .int a2].toArray ss 0 0 (hp_A (md_pic cA ad σ0) sz)) (F0 mm 42 ls [])) → W pp l ee ({ frames := 4, cells := 0, slots := 0, locals := 86 }) ss mm [.ref (ad 137), .int a1, .int a2].toArray bb mt cd H locs 0 0 (MQ bb (hp_Qv D vwCl (hp_Tl cA) sz (md_pic cA ad σ0) (fun u => u = md_pic cA ad p.2)) [.ref (ad 137), .int a1, .int a2].toArray ss 0 0 (hp_A (md_pic cA ad σ0) sz)) (F0 mm 2 ls []) := by
    intro j
    induction j with
    | zero => intro σ l1 l2 l3 q H locs ls h; exact nomatch h
    | succ j ih =>
      intro σ l1 l2 l3 q H locs ls h hw hl K
      refine lv_iload_n cx.1 cx.2.1 dX12_writeUnit_2 rfl (lv_at hl 3 rfl) ?_
      refine lv_aload_n cx.1 cx.2.1 dX12_writeUnit_3 rfl (lv_at hl 0 rfl) ?_
      refine md_gR (k := 44) cx hw hin12c (by decide) (by decide) (List.mem_cons_of_mem _ mm_246) dX12_writeUnit_4 ?_
      refine lv_iload_n cx.1 cx.2.1 dX12_writeUnit_7 rfl (lv_at hl 2 rfl) ?_
      obtain ⟨v3, e_v3, h⟩ := md_ob h
      refine md_lI (k := 44) hj cx hw (by decide) rfl rfl rfl e_v3 dX12_writeUnit_8 ?_
      refine lv_icmp_ge (tgt := 42) cx.1 cx.2.1 dX12_writeUnit_9 (by decide) (fun c9 => ?_) (fun c9 => ?_)
      · have h := md_ip c9 h
        obtain rfl := Option.some.inj h
        exact K _ _ _ hw (lv_sub hl [0, 1, 2] rfl)
      · have h := md_in c9 h
        refine lv_aload_n cx.1 cx.2.1 dX12_writeUnit_12 rfl (lv_at hl 0 rfl) ?_
        refine lv_iconst (v := 2) cx.1 cx.2.1 dX12_writeUnit_13 (by decide) ?_
        refine lv_aload_n cx.1 cx.2.1 dX12_writeUnit_14 rfl (lv_at hl 0 rfl) ?_
        refine lv_aload_n cx.1 cx.2.1 dX12_writeUnit_15 rfl (lv_at hl 0 rfl) ?_
        refine md_gI (k := 79) cx hw hin12c rfl (by decide) (List.mem_cons_of_mem _ mm_410) dX12_writeUnit_16 ?_
        refine lv_aload_n cx.1 cx.2.1 dX12_writeUnit_19 rfl (lv_at hl 0 rfl) ?_
        refine md_gR (k := 45) cx hw hin12c (by decide) (by decide) (List.mem_cons_of_mem _ mm_266) dX12_writeUnit_20 ?_
        refine lv_bipush (v := 16) cx.1 cx.2.1 dX12_writeUnit_23 (by decide) ?_
        refine lv_iload_n cx.1 cx.2.1 dX12_writeUnit_25 rfl (lv_at hl 2 rfl) ?_
        refine lv_imul cx.1 cx.2.1 dX12_writeUnit_26 ?_
        refine lv_iload_n cx.1 cx.2.1 dX12_writeUnit_27 rfl (lv_at hl 3 rfl) ?_
        refine lv_iadd cx.1 cx.2.1 dX12_writeUnit_28 ?_
        obtain ⟨v4, e_v4, h⟩ := md_ob h
        refine md_lI (k := 45) hj cx hw (by decide) rfl rfl rfl e_v4 dX12_writeUnit_29 ?_
        obtain ⟨p5, e_p5, h⟩ := md_ob h
        refine hp_callVi (As := [.int (mI σ 79), .int v4]) (rest := [.int 2, .ref (ad 137)]) cx hw (km_X12_localOf l D cA E _ ad hj hE n σ ((mI σ 79)) v4 p5 e_p5) (cwV 2 cx.2.2.2.2.2.1 (md_giV mm_432 mm_433 mm_434 mm_5 mm_435) rfl rfl rfl hd_X12_localOf ⟨Nat.le_of_ble_eq_true rfl, Nat.le_of_ble_eq_true rfl⟩) md_at0 rfl rfl hl.1 rfl (Nat.le_of_ble_eq_true rfl) dX12_writeUnit_30 ⟨Nat.le_refl _, Nat.le_refl _⟩ (fun r u H locs hp hw => ?_)
        obtain ⟨rfl, rfl⟩ := hp
        obtain ⟨p6, e_p6, h⟩ := md_ob h
        refine hp_callVv (As := [.int 2, .int p5.1]) (rest := []) cx hw (km_X12_put_ l D cA E _ ad hj hE n p5.2 (2 : Int32) (p5.1) p6 e_p6) (cwV 2 cx.2.2.2.2.2.1 (md_giV mm_403 mm_404 mm_405 mm_5 mm_406) rfl rfl rfl hd_X12_put_ ⟨Nat.le_of_ble_eq_true rfl, Nat.le_of_ble_eq_true rfl⟩) md_at0 rfl rfl hl.1 rfl (Nat.le_of_ble_eq_true rfl) dX12_writeUnit_33 ⟨Nat.le_refl _, Nat.le_refl _⟩ (fun u H locs hp hw => ?_)
        obtain rfl := hp
        refine lv_iinc (v := (l3 + 1)) (lv' := [(3, .int (l3 + 1)), (0, .ref (ad 137)), (1, .int l1), (2, .int l2)]) cx.1 cx.2.1 dX12_writeUnit_36 hl (k := 3) rfl rfl (by decide) rfl (fun ls hl => ?_)
        refine lv_goto (tgt := 2) cx.1 cx.2.1 dX12_writeUnit_39 (by decide) ?_
        exact ih p6.2 l1 l2 ((l3 + 1)) q _ _ _ h hw (lv_sub hl [1, 2, 3, 0] rfl) K
  obtain ⟨q7, e_q7, h⟩ := md_ob h
  refine L2 n σ0 a1 a2 0 q7 _ _ _ e_q7 hw (lv_sub hl [1, 2, 3, 0] rfl) (fun H locs ls hw hl => ?_)
  refine lv_aload_n cx.1 cx.2.1 dX12_writeUnit_42 rfl (lv_at hl 0 rfl) ?_
  refine lv_iload_n cx.1 cx.2.1 dX12_writeUnit_43 rfl (lv_at hl 1 rfl) ?_
  refine lv_iload_n cx.1 cx.2.1 dX12_writeUnit_44 rfl (lv_at hl 1 rfl) ?_
  refine lv_bipush (v := 10) cx.1 cx.2.1 dX12_writeUnit_45 (by decide) ?_
  refine lv_icmp_ne (tgt := 73) cx.1 cx.2.1 dX12_writeUnit_47 (by decide) (fun c47 => ?_) (fun c47 => ?_)
  · have h := md_in c47 h
    exact J73 q7.1 a2 a1 _ _ _ h hw (lv_sub hl [0, 2] rfl)
  · have h := md_ip c47 h
    refine lv_aload_n cx.1 cx.2.1 dX12_writeUnit_50 rfl (lv_at hl 0 rfl) ?_
    refine md_gR (k := 36) cx hw hin12c (by decide) (by decide) (List.mem_cons_of_mem _ mm_139) dX12_writeUnit_51 ?_
    refine lv_iload_n cx.1 cx.2.1 dX12_writeUnit_54 rfl (lv_at hl 2 rfl) ?_
    obtain ⟨v8, e_v8, h⟩ := md_ob h
    refine md_lI (k := 36) hj cx hw (by decide) rfl rfl rfl e_v8 dX12_writeUnit_55 ?_
    refine lv_iconst (v := 3) cx.1 cx.2.1 dX12_writeUnit_56 (by decide) ?_
    refine lv_icmp_ne (tgt := 73) cx.1 cx.2.1 dX12_writeUnit_57 (by decide) (fun c57 => ?_) (fun c57 => ?_)
    · have h := md_in c57 h
      exact J73 q7.1 a2 a1 _ _ _ h hw (lv_sub hl [0, 2] rfl)
    · have h := md_ip c57 h
      refine lv_aload_n cx.1 cx.2.1 dX12_writeUnit_60 rfl (lv_at hl 0 rfl) ?_
      refine md_gR (k := 47) cx hw hin12c (by decide) (by decide) (List.mem_cons_of_mem _ mm_144) dX12_writeUnit_61 ?_
      refine lv_iload_n cx.1 cx.2.1 dX12_writeUnit_64 rfl (lv_at hl 2 rfl) ?_
      obtain ⟨v9, e_v9, h⟩ := md_ob h
      refine md_lZ (k := 47) hj cx hw (by decide) rfl rfl rfl e_v9 dX12_writeUnit_65 ?_
      refine lv_if_eq (tgt := 73) cx.1 cx.2.1 dX12_writeUnit_66 (by decide) (fun c66 => ?_) (fun c66 => ?_)
      · have h := md_ip c66 h
        exact J73 q7.1 a2 a1 _ _ _ h hw (lv_sub hl [0, 2] rfl)
      · have h := md_in c66 h
        refine lv_iconst (v := 1) cx.1 cx.2.1 dX12_writeUnit_69 (by decide) ?_
        refine lv_goto (tgt := 74) cx.1 cx.2.1 dX12_writeUnit_70 (by decide) ?_
        exact J74 q7.1 a2 1 a1 _ _ _ h hw (lv_sub hl [0, 2] rfl)
set_option maxHeartbeats 4000000 in
set_option maxRecDepth 100000 in
theorem km_X12_writeOne (l : Launch) (D : va_G) (cA : Nat → ClassId) (E : hp_N) (sz : Nat) (ad : Nat → Nat) (hj : md_inj ad) (hE : md_E E) (n d : Nat) (rec : md_R) (ih0 : ∀ (sz : Nat) (σ : md_S) (b0 : Int32) (p : Int32 × md_S), rec 0 b0 0 0 σ = some p → Met l yX12_write (Cond.code yX12_write cX12_write 4 none :: v_MOD) ({ frames := d + 5, cells := 0, slots := 0, locals := 24 * d + 109 }) (hp_Pc D vwCl (hp_Tl cA) E sz (md_pic cA ad σ) [.ref (ad 137), .int b0]) (hp_Qv D vwCl (hp_Tl cA) sz (md_pic cA ad σ) (fun u => u = md_pic cA ad p.2)) 0 0 (hp_A (md_pic cA ad σ) sz)) (ih2 : ∀ (sz : Nat) (σ : md_S) (b0 : Int32) (p : Int32 × md_S), rec 2 b0 0 0 σ = some p → Met l yX12_writeIf (Cond.code yX12_writeIf cX12_writeIf 4 none :: v_MOD) ({ frames := d + 5, cells := 0, slots := 0, locals := 24 * d + 109 }) (hp_Pc D vwCl (hp_Tl cA) E sz (md_pic cA ad σ) [.ref (ad 137), .int b0]) (hp_Qv D vwCl (hp_Tl cA) sz (md_pic cA ad σ) (fun u => u = md_pic cA ad p.2)) 0 0 (hp_A (md_pic cA ad σ) sz)) (ih3 : ∀ (sz : Nat) (σ : md_S) (b0 : Int32) (b1 : Int32) (p : Int32 × md_S), rec 3 b0 b1 0 σ = some p → Met l yX12_writeTry (Cond.code yX12_writeTry cX12_writeTry 5 none :: v_MOD) ({ frames := d + 5, cells := 0, slots := 0, locals := 24 * d + 109 }) (hp_Pc D vwCl (hp_Tl cA) E sz (md_pic cA ad σ) [.ref (ad 137), .int b0, .int b1]) (hp_Qv D vwCl (hp_Tl cA) sz (md_pic cA ad σ) (fun u => u = md_pic cA ad p.2)) 0 0 (hp_A (md_pic cA ad σ) sz)) (σ0 : md_S) (a1 : Int32) (p : (Int32 × md_S)) (h : f_X12_writeOne n rec σ0 a1 = some p) : Met l yX12_writeOne (Cond.code yX12_writeOne cX12_writeOne 4 none :: v_MOD) ({ frames := (d + 1) + 5, cells := 0, slots := 0, locals := 24 * ((d + 1)) + 109 }) (hp_Pc D vwCl (hp_Tl cA) E sz (md_pic cA ad σ0) [.ref (ad 137), .int a1]) (hp_Qv D vwCl (hp_Tl cA) sz (md_pic cA ad σ0) (fun u => u = md_pic cA ad p.2)) 0 0 (hp_A (md_pic cA ad σ0) sz) := by
  refine hp_ofW (cc := cX12_writeOne) (maxL := 4) (ret := none) (by decide) rfl (Nat.le_of_ble_eq_true rfl) ?_
  intro pp ee ss mm bb mt cd ls cx hsz hw hl
  have hl : lv_has ls 4 [(0, .ref (ad 137)), (1, .int a1)] := hl
  have J451 : ∀ (σ : md_S) (l2 : Int32) (H : Heap) (locs : List Loc) (ls : Array Slot), f_X12_writeOne_J451 n rec σ l2 = some p → hp_w D vwCl (hp_Tl cA) E (hp_A (md_pic cA ad σ0) sz) ss H locs (md_pic cA ad σ) → lv_has ls 4 [(0, .ref (ad 137)), (2, .int l2)] → W pp l ee ({ frames := (d + 1) + 5, cells := 0, slots := 0, locals := 24 * ((d + 1)) + 109 }) ss mm [.ref (ad 137), .int a1].toArray bb mt cd H locs 0 0 (MQ bb (hp_Qv D vwCl (hp_Tl cA) sz (md_pic cA ad σ0) (fun u => u = md_pic cA ad p.2)) [.ref (ad 137), .int a1].toArray ss 0 0 (hp_A (md_pic cA ad σ0) sz)) (F0 mm 451 ls []) := by
    intro σ l2 H locs ls h hw hl
    refine lv_iload_n cx.1 cx.2.1 dX12_writeOne_451 rfl (lv_at hl 1 rfl) ?_
    refine lv_istore_n (lv' := [(3, .int l2), (0, .ref (ad 137)), (2, .int l2)]) cx.1 cx.2.1 dX12_writeOne_452 rfl hl (by decide) rfl (fun ls hl => ?_)
    have L453 : ∀ (j : Nat) (σ : md_S) (l2 : Int32) (l3 : Int32) (q : (md_S × Int32)) (H : Heap) (locs : List Loc) (ls : Array Slot), f_X12_writeOne_L453 n rec l2 j σ l3 = some q → hp_w D vwCl (hp_Tl cA) E (hp_A (md_pic cA ad σ0) sz) ss H locs (md_pic cA ad σ) → lv_has ls 4 [(0, .ref (ad 137)), (2, .int l2), (3, .int l3)] → (∀ (H : Heap) (locs : List Loc) (ls : Array Slot), hp_w D vwCl (hp_Tl cA) E (hp_A (md_pic cA ad σ0) sz) ss H locs (md_pic cA ad q.1) → lv_has ls 4 [] → W pp l ee ({ frames := (d + 1) + 5, cells := 0, slots := 0, locals := 24 * ((d + 1)) + 109 }) ss mm [.ref (ad 137), .int a1].toArray bb mt cd H locs 0 0 (MQ bb (hp_Qv D vwCl (hp_Tl cA) sz (md_pic cA ad σ0) (fun u => u = md_pic cA ad p.2)) [.ref (ad 137), .int a1].toArray ss 0 0 (hp_A (md_pic cA ad σ0) sz)) (F0 mm 484 ls [])) → W pp l ee ({ frames := (d + 1) + 5, cells := 0, slots := 0, locals := 24 * ((d + 1)) + 109 }) ss mm [.ref (ad 137), .int a1].toArray bb mt cd H locs 0 0 (MQ bb (hp_Qv D vwCl (hp_Tl cA) sz (md_pic cA ad σ0) (fun u => u = md_pic cA ad p.2)) [.ref (ad 137), .int a1].toArray ss 0 0 (hp_A (md_pic cA ad σ0) sz)) (F0 mm 453 ls []) := by
      intro j
      induction j with
      | zero => intro σ l2 l3 q H locs ls h; exact nomatch h
      | succ j ih =>
        intro σ l2 l3 q H locs ls h hw hl K
        have J469 : ∀ (σ : md_S) (l3 : Int32) (H : Heap) (locs : List Loc) (ls : Array Slot), f_X12_writeOne_J469 n rec l2 (f_X12_writeOne_L453 n rec l2 j) σ l3 = some q → hp_w D vwCl (hp_Tl cA) E (hp_A (md_pic cA ad σ0) sz) ss H locs (md_pic cA ad σ) → lv_has ls 4 [(0, .ref (ad 137)), (2, .int l2), (3, .int l3)] → W pp l ee ({ frames := (d + 1) + 5, cells := 0, slots := 0, locals := 24 * ((d + 1)) + 109 }) ss mm [.ref (ad 137), .int a1].toArray bb mt cd H locs 0 0 (MQ bb (hp_Qv D vwCl (hp_Tl cA) sz (md_pic cA ad σ0) (fun u => u = md_pic cA ad p.2)) [.ref (ad 137), .int a1].toArray ss 0 0 (hp_A (md_pic cA ad σ0) sz)) (F0 mm 469 ls []) := by
          intro σ l3 H locs ls h hw hl
          refine lv_aload_n cx.1 cx.2.1 dX12_writeOne_469 rfl (lv_at hl 0 rfl) ?_
          refine lv_iload_n cx.1 cx.2.1 dX12_writeOne_470 rfl (lv_at hl 2 rfl) ?_
          obtain ⟨p1, e_p1, h⟩ := md_ob h
          refine hp_callVv (As := [.int l3]) (rest := []) cx hw (ih0 _ σ l3 p1 e_p1) (cwV 1 cx.2.2.2.2.2.1 (md_giV mm_420 mm_421 mm_422 mm_5 mm_423) rfl rfl rfl hd_X12_write ⟨by dsimp only; omega, by dsimp only; omega⟩) md_at0 rfl rfl hl.1 rfl (Nat.le_of_ble_eq_true rfl) dX12_writeOne_471 ⟨Nat.le_refl _, Nat.le_refl _⟩ (fun u H locs hp hw => ?_)
          obtain rfl := hp
          refine lv_aload_n cx.1 cx.2.1 dX12_writeOne_474 rfl (lv_at hl 0 rfl) ?_
          refine md_gR (k := 71) cx hw hin12c (by decide) (by decide) (List.mem_cons_of_mem _ mm_134) dX12_writeOne_475 ?_
          refine lv_iload_n cx.1 cx.2.1 dX12_writeOne_478 rfl (lv_at hl 2 rfl) ?_
          obtain ⟨v2, e_v2, h⟩ := md_ob h
          refine md_lI (k := 71) hj cx hw (by decide) rfl rfl rfl e_v2 dX12_writeOne_479 ?_
          refine lv_istore_n (lv' := [(3, .int v2), (0, .ref (ad 137)), (2, .int l2)]) cx.1 cx.2.1 dX12_writeOne_480 rfl hl (by decide) rfl (fun ls hl => ?_)
          refine lv_goto (tgt := 453) cx.1 cx.2.1 dX12_writeOne_481 (by decide) ?_
          exact ih p1.2 l2 v2 q _ _ _ h hw (lv_sub hl [1, 2, 0] rfl) K
        refine lv_iload_n cx.1 cx.2.1 dX12_writeOne_453 rfl (lv_at hl 2 rfl) ?_
        refine lv_iconst (v := (-1)) cx.1 cx.2.1 dX12_writeOne_454 (by decide) ?_
        refine lv_icmp_eq (tgt := 484) cx.1 cx.2.1 dX12_writeOne_455 (by decide) (fun c455 => ?_) (fun c455 => ?_)
        · have h := md_ip c455 h
          obtain rfl := Option.some.inj h
          exact K _ _ _ hw (lv_sub hl [] rfl)
        · have h := md_in c455 h
          refine lv_iload_n cx.1 cx.2.1 dX12_writeOne_458 rfl (lv_at hl 2 rfl) ?_
          refine lv_iload_n cx.1 cx.2.1 dX12_writeOne_459 rfl (lv_at hl 1 rfl) ?_
          refine lv_icmp_eq (tgt := 469) cx.1 cx.2.1 dX12_writeOne_460 (by decide) (fun c460 => ?_) (fun c460 => ?_)
          · have h := md_ip c460 h
            exact J469 σ l3 _ _ _ h hw (lv_sub hl [0, 1, 2] rfl)
          · have h := md_in c460 h
            refine lv_aload_n cx.1 cx.2.1 dX12_writeOne_463 rfl (lv_at hl 0 rfl) ?_
            refine lv_bipush (v := 16) cx.1 cx.2.1 dX12_writeOne_464 (by decide) ?_
            obtain ⟨p3, e_p3, h⟩ := md_ob h
            refine hp_callVv (As := [.int 16]) (rest := []) cx hw (km_X12_put l D cA E _ ad hj hE n σ (16 : Int32) p3 e_p3) (cwV 1 cx.2.2.2.2.2.1 (md_giV mm_395 mm_396 mm_397 mm_5 mm_398) rfl rfl rfl hd_X12_put ⟨by dsimp only; omega, by dsimp only; omega⟩) md_at0 rfl rfl hl.1 rfl (Nat.le_of_ble_eq_true rfl) dX12_writeOne_466 ⟨Nat.le_refl _, Nat.le_refl _⟩ (fun u H locs hp hw => ?_)
            obtain rfl := hp
            exact J469 p3.2 l3 _ _ _ h hw (lv_sub hl [0, 1, 2] rfl)
    obtain ⟨q4, e_q4, h⟩ := md_ob h
    refine L453 n σ l2 l2 q4 _ _ _ e_q4 hw (lv_sub hl [1, 2, 0] rfl) (fun H locs ls hw hl => ?_)
    exact hp_vret cx hw (md_retv h) dX12_writeOne_484
  have J360 : ∀ (σ : md_S) (l1 : Int32) (l2 : Int32) (H : Heap) (locs : List Loc) (ls : Array Slot), f_X12_writeOne_J360 n rec σ l1 l2 = some p → hp_w D vwCl (hp_Tl cA) E (hp_A (md_pic cA ad σ0) sz) ss H locs (md_pic cA ad σ) → lv_has ls 4 [(0, .ref (ad 137)), (1, .int l1), (2, .int l2)] → W pp l ee ({ frames := (d + 1) + 5, cells := 0, slots := 0, locals := 24 * ((d + 1)) + 109 }) ss mm [.ref (ad 137), .int a1].toArray bb mt cd H locs 0 0 (MQ bb (hp_Qv D vwCl (hp_Tl cA) sz (md_pic cA ad σ0) (fun u => u = md_pic cA ad p.2)) [.ref (ad 137), .int a1].toArray ss 0 0 (hp_A (md_pic cA ad σ0) sz)) (F0 mm 360 ls []) := by
    intro σ l1 l2 H locs ls h hw hl
    refine lv_aload_n cx.1 cx.2.1 dX12_writeOne_360 rfl (lv_at hl 0 rfl) ?_
    refine lv_iload_n cx.1 cx.2.1 dX12_writeOne_361 rfl (lv_at hl 2 rfl) ?_
    obtain ⟨p5, e_p5, h⟩ := md_ob h
    refine hp_callVv (As := [.int l2]) (rest := []) cx hw (ih0 _ σ l2 p5 e_p5) (cwV 1 cx.2.2.2.2.2.1 (md_giV mm_420 mm_421 mm_422 mm_5 mm_423) rfl rfl rfl hd_X12_write ⟨by dsimp only; omega, by dsimp only; omega⟩) md_at0 rfl rfl hl.1 rfl (Nat.le_of_ble_eq_true rfl) dX12_writeOne_362 ⟨Nat.le_refl _, Nat.le_refl _⟩ (fun u H locs hp hw => ?_)
    obtain rfl := hp
    refine lv_aload_n cx.1 cx.2.1 dX12_writeOne_365 rfl (lv_at hl 0 rfl) ?_
    refine lv_aload_n cx.1 cx.2.1 dX12_writeOne_366 rfl (lv_at hl 0 rfl) ?_
    refine md_gR (k := 66) cx hw hin12c (by decide) (by decide) (List.mem_cons_of_mem _ mm_128) dX12_writeOne_367 ?_
    refine lv_iload_n cx.1 cx.2.1 dX12_writeOne_370 rfl (lv_at hl 1 rfl) ?_
    obtain ⟨v6, e_v6, h⟩ := md_ob h
    refine md_lI (k := 66) hj cx hw (by decide) rfl rfl rfl e_v6 dX12_writeOne_371 ?_
    obtain ⟨p7, e_p7, h⟩ := md_ob h
    refine hp_callVv (As := [.int v6]) (rest := []) cx hw (km_X12_put l D cA E _ ad hj hE n p5.2 v6 p7 e_p7) (cwV 1 cx.2.2.2.2.2.1 (md_giV mm_395 mm_396 mm_397 mm_5 mm_398) rfl rfl rfl hd_X12_put ⟨by dsimp only; omega, by dsimp only; omega⟩) md_at0 rfl rfl hl.1 rfl (Nat.le_of_ble_eq_true rfl) dX12_writeOne_372 ⟨Nat.le_refl _, Nat.le_refl _⟩ (fun u H locs hp hw => ?_)
    obtain rfl := hp
    refine lv_goto (tgt := 484) cx.1 cx.2.1 dX12_writeOne_375 (by decide) ?_
    exact hp_vret cx hw (md_retv h) dX12_writeOne_484
  have J336 : ∀ (σ : md_S) (l1 : Int32) (H : Heap) (locs : List Loc) (ls : Array Slot), f_X12_writeOne_J336 n rec σ l1 = some p → hp_w D vwCl (hp_Tl cA) E (hp_A (md_pic cA ad σ0) sz) ss H locs (md_pic cA ad σ) → lv_has ls 4 [(0, .ref (ad 137)), (1, .int l1)] → W pp l ee ({ frames := (d + 1) + 5, cells := 0, slots := 0, locals := 24 * ((d + 1)) + 109 }) ss mm [.ref (ad 137), .int a1].toArray bb mt cd H locs 0 0 (MQ bb (hp_Qv D vwCl (hp_Tl cA) sz (md_pic cA ad σ0) (fun u => u = md_pic cA ad p.2)) [.ref (ad 137), .int a1].toArray ss 0 0 (hp_A (md_pic cA ad σ0) sz)) (F0 mm 336 ls []) := by
    intro σ l1 H locs ls h hw hl
    refine lv_aload_n cx.1 cx.2.1 dX12_writeOne_336 rfl (lv_at hl 0 rfl) ?_
    refine lv_aload_n cx.1 cx.2.1 dX12_writeOne_337 rfl (lv_at hl 0 rfl) ?_
    refine md_gR (k := 66) cx hw hin12c (by decide) (by decide) (List.mem_cons_of_mem _ mm_128) dX12_writeOne_338 ?_
    refine lv_iload_n cx.1 cx.2.1 dX12_writeOne_341 rfl (lv_at hl 1 rfl) ?_
    obtain ⟨v8, e_v8, h⟩ := md_ob h
    refine md_lI (k := 66) hj cx hw (by decide) rfl rfl rfl e_v8 dX12_writeOne_342 ?_
    refine lv_iconst (v := 1) cx.1 cx.2.1 dX12_writeOne_343 (by decide) ?_
    obtain ⟨p9, e_p9, h⟩ := md_ob h
    refine hp_callVv (As := [.int v8, .int 1]) (rest := []) cx hw (km_X12_begins l D cA E _ ad hj hE n σ v8 (1 : Int32) p9 e_p9) (cwV 2 cx.2.2.2.2.2.1 (md_giV mm_436 mm_437 mm_438 mm_5 mm_439) rfl rfl rfl hd_X12_begins ⟨by dsimp only; omega, by dsimp only; omega⟩) md_at0 rfl rfl hl.1 rfl (Nat.le_of_ble_eq_true rfl) dX12_writeOne_344 ⟨Nat.le_refl _, Nat.le_refl _⟩ (fun u H locs hp hw => ?_)
    obtain rfl := hp
    refine lv_aload_n cx.1 cx.2.1 dX12_writeOne_347 rfl (lv_at hl 0 rfl) ?_
    refine lv_aload_n cx.1 cx.2.1 dX12_writeOne_348 rfl (lv_at hl 0 rfl) ?_
    refine md_gR (k := 68) cx hw hin12c (by decide) (by decide) (List.mem_cons_of_mem _ mm_131) dX12_writeOne_349 ?_
    refine lv_iload_n cx.1 cx.2.1 dX12_writeOne_352 rfl (lv_at hl 1 rfl) ?_
    obtain ⟨v10, e_v10, h⟩ := md_ob h
    refine md_lI (k := 68) hj cx hw (by decide) rfl rfl rfl e_v10 dX12_writeOne_353 ?_
    obtain ⟨p11, e_p11, h⟩ := md_ob h
    refine hp_callVv (As := [.int v10]) (rest := []) cx hw (km_X12_putNumber l D cA E _ ad hj hE n p9.2 v10 p11 e_p11) (cwV 1 cx.2.2.2.2.2.1 (md_giV mm_399 mm_400 mm_401 mm_5 mm_402) rfl rfl rfl hd_X12_putNumber ⟨by dsimp only; omega, by dsimp only; omega⟩) md_at0 rfl rfl hl.1 rfl (Nat.le_of_ble_eq_true rfl) dX12_writeOne_354 ⟨Nat.le_refl _, Nat.le_refl _⟩ (fun u H locs hp hw => ?_)
    obtain rfl := hp
    refine lv_goto (tgt := 484) cx.1 cx.2.1 dX12_writeOne_357 (by decide) ?_
    exact hp_vret cx hw (md_retv h) dX12_writeOne_484
  have J326 : ∀ (σ : md_S) (l1 : Int32) (l2 : Int32) (H : Heap) (locs : List Loc) (ls : Array Slot), f_X12_writeOne_J326 n rec σ l1 l2 = some p → hp_w D vwCl (hp_Tl cA) E (hp_A (md_pic cA ad σ0) sz) ss H locs (md_pic cA ad σ) → lv_has ls 4 [(0, .ref (ad 137)), (1, .int l1), (2, .int l2)] → W pp l ee ({ frames := (d + 1) + 5, cells := 0, slots := 0, locals := 24 * ((d + 1)) + 109 }) ss mm [.ref (ad 137), .int a1].toArray bb mt cd H locs 0 0 (MQ bb (hp_Qv D vwCl (hp_Tl cA) sz (md_pic cA ad σ0) (fun u => u = md_pic cA ad p.2)) [.ref (ad 137), .int a1].toArray ss 0 0 (hp_A (md_pic cA ad σ0) sz)) (F0 mm 326 ls []) := by
    intro σ l1 l2 H locs ls h hw hl
    refine lv_iload_n cx.1 cx.2.1 dX12_writeOne_326 rfl (lv_at hl 2 rfl) ?_
    refine lv_iconst (v := (-1)) cx.1 cx.2.1 dX12_writeOne_327 (by decide) ?_
    refine lv_icmp_eq (tgt := 336) cx.1 cx.2.1 dX12_writeOne_328 (by decide) (fun c328 => ?_) (fun c328 => ?_)
    · have h := md_ip c328 h
      exact J336 σ l1 _ _ _ h hw (lv_sub hl [0, 1] rfl)
    · have h := md_in c328 h
      refine lv_aload_n cx.1 cx.2.1 dX12_writeOne_331 rfl (lv_at hl 0 rfl) ?_
      refine lv_iload_n cx.1 cx.2.1 dX12_writeOne_332 rfl (lv_at hl 2 rfl) ?_
      obtain ⟨p12, e_p12, h⟩ := md_ob h
      refine hp_callVv (As := [.int l2]) (rest := []) cx hw (ih0 _ σ l2 p12 e_p12) (cwV 1 cx.2.2.2.2.2.1 (md_giV mm_420 mm_421 mm_422 mm_5 mm_423) rfl rfl rfl hd_X12_write ⟨by dsimp only; omega, by dsimp only; omega⟩) md_at0 rfl rfl hl.1 rfl (Nat.le_of_ble_eq_true rfl) dX12_writeOne_333 ⟨Nat.le_refl _, Nat.le_refl _⟩ (fun u H locs hp hw => ?_)
      obtain rfl := hp
      exact J336 p12.2 l1 _ _ _ h hw (lv_sub hl [0, 1] rfl)
  have J311 : ∀ (σ : md_S) (l1 : Int32) (H : Heap) (locs : List Loc) (ls : Array Slot), f_X12_writeOne_J311 n rec σ l1 = some p → hp_w D vwCl (hp_Tl cA) E (hp_A (md_pic cA ad σ0) sz) ss H locs (md_pic cA ad σ) → lv_has ls 4 [(0, .ref (ad 137)), (1, .int l1)] → W pp l ee ({ frames := (d + 1) + 5, cells := 0, slots := 0, locals := 24 * ((d + 1)) + 109 }) ss mm [.ref (ad 137), .int a1].toArray bb mt cd H locs 0 0 (MQ bb (hp_Qv D vwCl (hp_Tl cA) sz (md_pic cA ad σ0) (fun u => u = md_pic cA ad p.2)) [.ref (ad 137), .int a1].toArray ss 0 0 (hp_A (md_pic cA ad σ0) sz)) (F0 mm 311 ls []) := by
    intro σ l1 H locs ls h hw hl
    refine lv_aload_n cx.1 cx.2.1 dX12_writeOne_311 rfl (lv_at hl 0 rfl) ?_
    refine lv_bipush (v := 10) cx.1 cx.2.1 dX12_writeOne_312 (by decide) ?_
    refine lv_aload_n cx.1 cx.2.1 dX12_writeOne_314 rfl (lv_at hl 0 rfl) ?_
    refine md_gR (k := 68) cx hw hin12c (by decide) (by decide) (List.mem_cons_of_mem _ mm_131) dX12_writeOne_315 ?_
    refine lv_iload_n cx.1 cx.2.1 dX12_writeOne_318 rfl (lv_at hl 1 rfl) ?_
    obtain ⟨v13, e_v13, h⟩ := md_ob h
    refine md_lI (k := 68) hj cx hw (by decide) rfl rfl rfl e_v13 dX12_writeOne_319 ?_
    obtain ⟨p14, e_p14, h⟩ := md_ob h
    refine hp_callVv (As := [.int 10, .int v13]) (rest := []) cx hw (km_X12_writeUnit l D cA E _ ad hj hE n σ (10 : Int32) v13 p14 e_p14) (cwV 2 cx.2.2.2.2.2.1 (md_giV mm_440 mm_441 mm_442 mm_5 mm_443) rfl rfl rfl hd_X12_writeUnit ⟨by dsimp only; omega, by dsimp only; omega⟩) md_at0 rfl rfl hl.1 rfl (Nat.le_of_ble_eq_true rfl) dX12_writeOne_320 ⟨Nat.le_refl _, Nat.le_refl _⟩ (fun u H locs hp hw => ?_)
    obtain rfl := hp
    refine lv_goto (tgt := 484) cx.1 cx.2.1 dX12_writeOne_323 (by decide) ?_
    exact hp_vret cx hw (md_retv h) dX12_writeOne_484
  refine lv_aload_n cx.1 cx.2.1 dX12_writeOne_0 rfl (lv_at hl 0 rfl) ?_
  refine md_gR (k := 70) cx hw hin12c (by decide) (by decide) (List.mem_cons_of_mem _ mm_133) dX12_writeOne_1 ?_
  refine lv_iload_n cx.1 cx.2.1 dX12_writeOne_4 rfl (lv_at hl 1 rfl) ?_
  obtain ⟨v15, e_v15, h⟩ := md_ob h
  refine md_lI (k := 70) hj cx hw (by decide) rfl rfl rfl e_v15 dX12_writeOne_5 ?_
  refine lv_istore_n (lv' := [(2, .int v15), (0, .ref (ad 137)), (1, .int a1)]) cx.1 cx.2.1 dX12_writeOne_6 rfl hl (by decide) rfl (fun ls hl => ?_)
  refine lv_aload_n cx.1 cx.2.1 dX12_writeOne_7 rfl (lv_at hl 1 rfl) ?_
  refine md_gR (k := 66) cx hw hin12c (by decide) (by decide) (List.mem_cons_of_mem _ mm_128) dX12_writeOne_8 ?_
  refine lv_iload_n cx.1 cx.2.1 dX12_writeOne_11 rfl (lv_at hl 2 rfl) ?_
  obtain ⟨v16, e_v16, h⟩ := md_ob h
  refine md_lI (k := 66) hj cx hw (by decide) rfl rfl rfl e_v16 dX12_writeOne_12 ?_
  by_cases c13_0 : v16 = 0
  · refine lv_tableIn (off := 183) (tgt := 196) cx.1 cx.2.1 dX12_writeOne_13 (by rw [c13_0]; decide) (by rw [c13_0]; decide) (by rw [c13_0]; decide) (by decide) ?_
    have h := md_ip c13_0 h
    refine lv_aload_n cx.1 cx.2.1 dX12_writeOne_196 rfl (lv_at hl 1 rfl) ?_
    refine lv_iconst (v := 0) cx.1 cx.2.1 dX12_writeOne_197 (by decide) ?_
    refine lv_aload_n cx.1 cx.2.1 dX12_writeOne_198 rfl (lv_at hl 1 rfl) ?_
    refine md_gR (k := 68) cx hw hin12c (by decide) (by decide) (List.mem_cons_of_mem _ mm_131) dX12_writeOne_199 ?_
    refine lv_iload_n cx.1 cx.2.1 dX12_writeOne_202 rfl (lv_at hl 2 rfl) ?_
    obtain ⟨v17, e_v17, h⟩ := md_ob h
    refine md_lI (k := 68) hj cx hw (by decide) rfl rfl rfl e_v17 dX12_writeOne_203 ?_
    obtain ⟨p18, e_p18, h⟩ := md_ob h
    refine hp_callVv (As := [.int 0, .int v17]) (rest := []) cx hw (km_X12_put_ l D cA E _ ad hj hE n σ0 (0 : Int32) v17 p18 e_p18) (cwV 2 cx.2.2.2.2.2.1 (md_giV mm_403 mm_404 mm_405 mm_5 mm_406) rfl rfl rfl hd_X12_put_ ⟨by dsimp only; omega, by dsimp only; omega⟩) md_at0 rfl rfl hl.1 rfl (Nat.le_of_ble_eq_true rfl) dX12_writeOne_204 ⟨Nat.le_refl _, Nat.le_refl _⟩ (fun u H locs hp hw => ?_)
    obtain rfl := hp
    refine lv_goto (tgt := 484) cx.1 cx.2.1 dX12_writeOne_207 (by decide) ?_
    exact hp_vret cx hw (md_retv h) dX12_writeOne_484
  have h := md_in c13_0 h
  by_cases c13_1 : v16 = 1
  · refine lv_tableIn (off := 197) (tgt := 210) cx.1 cx.2.1 dX12_writeOne_13 (by rw [c13_1]; decide) (by rw [c13_1]; decide) (by rw [c13_1]; decide) (by decide) ?_
    have h := md_ip c13_1 h
    refine lv_aload_n cx.1 cx.2.1 dX12_writeOne_210 rfl (lv_at hl 1 rfl) ?_
    refine lv_iconst (v := 1) cx.1 cx.2.1 dX12_writeOne_211 (by decide) ?_
    obtain ⟨p19, e_p19, h⟩ := md_ob h
    refine hp_callVv (As := [.int 1]) (rest := []) cx hw (km_X12_put l D cA E _ ad hj hE n σ0 (1 : Int32) p19 e_p19) (cwV 1 cx.2.2.2.2.2.1 (md_giV mm_395 mm_396 mm_397 mm_5 mm_398) rfl rfl rfl hd_X12_put ⟨by dsimp only; omega, by dsimp only; omega⟩) md_at0 rfl rfl hl.1 rfl (Nat.le_of_ble_eq_true rfl) dX12_writeOne_212 ⟨Nat.le_refl _, Nat.le_refl _⟩ (fun u H locs hp hw => ?_)
    obtain rfl := hp
    refine lv_goto (tgt := 484) cx.1 cx.2.1 dX12_writeOne_215 (by decide) ?_
    exact hp_vret cx hw (md_retv h) dX12_writeOne_484
  have h := md_in c13_1 h
  by_cases c13_2 : v16 = 2
  · refine lv_tableIn (off := 205) (tgt := 218) cx.1 cx.2.1 dX12_writeOne_13 (by rw [c13_2]; decide) (by rw [c13_2]; decide) (by rw [c13_2]; decide) (by decide) ?_
    have h := md_ip c13_2 h
    refine lv_aload_n cx.1 cx.2.1 dX12_writeOne_218 rfl (lv_at hl 1 rfl) ?_
    refine lv_iconst (v := 2) cx.1 cx.2.1 dX12_writeOne_219 (by decide) ?_
    refine lv_aload_n cx.1 cx.2.1 dX12_writeOne_220 rfl (lv_at hl 1 rfl) ?_
    refine lv_aload_n cx.1 cx.2.1 dX12_writeOne_221 rfl (lv_at hl 1 rfl) ?_
    refine md_gI (k := 79) cx hw hin12c rfl (by decide) (List.mem_cons_of_mem _ mm_410) dX12_writeOne_222 ?_
    refine lv_aload_n cx.1 cx.2.1 dX12_writeOne_225 rfl (lv_at hl 1 rfl) ?_
    refine md_gR (k := 68) cx hw hin12c (by decide) (by decide) (List.mem_cons_of_mem _ mm_131) dX12_writeOne_226 ?_
    refine lv_iload_n cx.1 cx.2.1 dX12_writeOne_229 rfl (lv_at hl 2 rfl) ?_
    obtain ⟨v20, e_v20, h⟩ := md_ob h
    refine md_lI (k := 68) hj cx hw (by decide) rfl rfl rfl e_v20 dX12_writeOne_230 ?_
    obtain ⟨p21, e_p21, h⟩ := md_ob h
    refine hp_callVi (As := [.int (mI σ0 79), .int v20]) (rest := [.int 2, .ref (ad 137)]) cx hw (km_X12_localOf l D cA E _ ad hj hE n σ0 ((mI σ0 79)) v20 p21 e_p21) (cwV 2 cx.2.2.2.2.2.1 (md_giV mm_432 mm_433 mm_434 mm_5 mm_435) rfl rfl rfl hd_X12_localOf ⟨by dsimp only; omega, by dsimp only; omega⟩) md_at0 rfl rfl hl.1 rfl (Nat.le_of_ble_eq_true rfl) dX12_writeOne_231 ⟨Nat.le_refl _, Nat.le_refl _⟩ (fun r u H locs hp hw => ?_)
    obtain ⟨rfl, rfl⟩ := hp
    obtain ⟨p22, e_p22, h⟩ := md_ob h
    refine hp_callVv (As := [.int 2, .int p21.1]) (rest := []) cx hw (km_X12_put_ l D cA E _ ad hj hE n p21.2 (2 : Int32) (p21.1) p22 e_p22) (cwV 2 cx.2.2.2.2.2.1 (md_giV mm_403 mm_404 mm_405 mm_5 mm_406) rfl rfl rfl hd_X12_put_ ⟨by dsimp only; omega, by dsimp only; omega⟩) md_at0 rfl rfl hl.1 rfl (Nat.le_of_ble_eq_true rfl) dX12_writeOne_234 ⟨Nat.le_refl _, Nat.le_refl _⟩ (fun u H locs hp hw => ?_)
    obtain rfl := hp
    refine lv_goto (tgt := 484) cx.1 cx.2.1 dX12_writeOne_237 (by decide) ?_
    exact hp_vret cx hw (md_retv h) dX12_writeOne_484
  have h := md_in c13_2 h
  by_cases c13_4 : v16 = 4
  · refine lv_tableIn (off := 227) (tgt := 240) cx.1 cx.2.1 dX12_writeOne_13 (by rw [c13_4]; decide) (by rw [c13_4]; decide) (by rw [c13_4]; decide) (by decide) ?_
    have h := md_ip c13_4 h
    refine lv_aload_n cx.1 cx.2.1 dX12_writeOne_240 rfl (lv_at hl 1 rfl) ?_
    refine lv_iconst (v := 4) cx.1 cx.2.1 dX12_writeOne_241 (by decide) ?_
    refine lv_aload_n cx.1 cx.2.1 dX12_writeOne_242 rfl (lv_at hl 1 rfl) ?_
    refine md_gR (k := 68) cx hw hin12c (by decide) (by decide) (List.mem_cons_of_mem _ mm_131) dX12_writeOne_243 ?_
    refine lv_iload_n cx.1 cx.2.1 dX12_writeOne_246 rfl (lv_at hl 2 rfl) ?_
    obtain ⟨v23, e_v23, h⟩ := md_ob h
    refine md_lI (k := 68) hj cx hw (by decide) rfl rfl rfl e_v23 dX12_writeOne_247 ?_
    obtain ⟨p24, e_p24, h⟩ := md_ob h
    refine hp_callVv (As := [.int 4, .int v23]) (rest := []) cx hw (km_X12_put_ l D cA E _ ad hj hE n σ0 (4 : Int32) v23 p24 e_p24) (cwV 2 cx.2.2.2.2.2.1 (md_giV mm_403 mm_404 mm_405 mm_5 mm_406) rfl rfl rfl hd_X12_put_ ⟨by dsimp only; omega, by dsimp only; omega⟩) md_at0 rfl rfl hl.1 rfl (Nat.le_of_ble_eq_true rfl) dX12_writeOne_248 ⟨Nat.le_refl _, Nat.le_refl _⟩ (fun u H locs hp hw => ?_)
    obtain rfl := hp
    refine lv_goto (tgt := 484) cx.1 cx.2.1 dX12_writeOne_251 (by decide) ?_
    exact hp_vret cx hw (md_retv h) dX12_writeOne_484
  have h := md_in c13_4 h
  by_cases c13_9 : v16 = 9
  · refine lv_tableIn (off := 273) (tgt := 286) cx.1 cx.2.1 dX12_writeOne_13 (by rw [c13_9]; decide) (by rw [c13_9]; decide) (by rw [c13_9]; decide) (by decide) ?_
    have h := md_ip c13_9 h
    refine lv_aload_n cx.1 cx.2.1 dX12_writeOne_286 rfl (lv_at hl 1 rfl) ?_
    refine lv_bipush (v := 9) cx.1 cx.2.1 dX12_writeOne_287 (by decide) ?_
    refine lv_aload_n cx.1 cx.2.1 dX12_writeOne_289 rfl (lv_at hl 1 rfl) ?_
    refine md_gR (k := 68) cx hw hin12c (by decide) (by decide) (List.mem_cons_of_mem _ mm_131) dX12_writeOne_290 ?_
    refine lv_iload_n cx.1 cx.2.1 dX12_writeOne_293 rfl (lv_at hl 2 rfl) ?_
    obtain ⟨v25, e_v25, h⟩ := md_ob h
    refine md_lI (k := 68) hj cx hw (by decide) rfl rfl rfl e_v25 dX12_writeOne_294 ?_
    obtain ⟨p26, e_p26, h⟩ := md_ob h
    refine hp_callVv (As := [.int 9, .int v25]) (rest := []) cx hw (km_X12_writeUnit l D cA E _ ad hj hE n σ0 (9 : Int32) v25 p26 e_p26) (cwV 2 cx.2.2.2.2.2.1 (md_giV mm_440 mm_441 mm_442 mm_5 mm_443) rfl rfl rfl hd_X12_writeUnit ⟨by dsimp only; omega, by dsimp only; omega⟩) md_at0 rfl rfl hl.1 rfl (Nat.le_of_ble_eq_true rfl) dX12_writeOne_295 ⟨Nat.le_refl _, Nat.le_refl _⟩ (fun u H locs hp hw => ?_)
    obtain rfl := hp
    refine lv_goto (tgt := 484) cx.1 cx.2.1 dX12_writeOne_298 (by decide) ?_
    exact hp_vret cx hw (md_retv h) dX12_writeOne_484
  have h := md_in c13_9 h
  by_cases c13_10 : v16 = 10
  · refine lv_tableIn (off := 288) (tgt := 301) cx.1 cx.2.1 dX12_writeOne_13 (by rw [c13_10]; decide) (by rw [c13_10]; decide) (by rw [c13_10]; decide) (by decide) ?_
    have h := md_ip c13_10 h
    refine lv_iload_n cx.1 cx.2.1 dX12_writeOne_301 rfl (lv_at hl 0 rfl) ?_
    refine lv_iconst (v := (-1)) cx.1 cx.2.1 dX12_writeOne_302 (by decide) ?_
    refine lv_icmp_eq (tgt := 311) cx.1 cx.2.1 dX12_writeOne_303 (by decide) (fun c303 => ?_) (fun c303 => ?_)
    · have h := md_ip c303 h
      exact J311 σ0 a1 _ _ _ h hw (lv_sub hl [1, 2] rfl)
    · have h := md_in c303 h
      refine lv_aload_n cx.1 cx.2.1 dX12_writeOne_306 rfl (lv_at hl 1 rfl) ?_
      refine lv_iload_n cx.1 cx.2.1 dX12_writeOne_307 rfl (lv_at hl 0 rfl) ?_
      obtain ⟨p27, e_p27, h⟩ := md_ob h
      refine hp_callVv (As := [.int v15]) (rest := []) cx hw (ih0 _ σ0 v15 p27 e_p27) (cwV 1 cx.2.2.2.2.2.1 (md_giV mm_420 mm_421 mm_422 mm_5 mm_423) rfl rfl rfl hd_X12_write ⟨by dsimp only; omega, by dsimp only; omega⟩) md_at0 rfl rfl hl.1 rfl (Nat.le_of_ble_eq_true rfl) dX12_writeOne_308 ⟨Nat.le_refl _, Nat.le_refl _⟩ (fun u H locs hp hw => ?_)
      obtain rfl := hp
      exact J311 p27.2 a1 _ _ _ h hw (lv_sub hl [1, 2] rfl)
  have h := md_in c13_10 h
  by_cases c13_19 : v16 = 19
  · refine lv_tableIn (off := 429) (tgt := 442) cx.1 cx.2.1 dX12_writeOne_13 (by rw [c13_19]; decide) (by rw [c13_19]; decide) (by rw [c13_19]; decide) (by decide) ?_
    have h := md_ip c13_19 h
    refine lv_aload_n cx.1 cx.2.1 dX12_writeOne_442 rfl (lv_at hl 1 rfl) ?_
    refine lv_iload_n cx.1 cx.2.1 dX12_writeOne_443 rfl (lv_at hl 2 rfl) ?_
    refine lv_iload_n cx.1 cx.2.1 dX12_writeOne_444 rfl (lv_at hl 0 rfl) ?_
    obtain ⟨p28, e_p28, h⟩ := md_ob h
    refine hp_callVv (As := [.int a1, .int v15]) (rest := []) cx hw (ih3 _ σ0 a1 v15 p28 e_p28) (cwV 2 cx.2.2.2.2.2.1 (md_giV mm_444 mm_445 mm_446 mm_5 mm_447) rfl rfl rfl hd_X12_writeTry ⟨by dsimp only; omega, by dsimp only; omega⟩) md_at0 rfl rfl hl.1 rfl (Nat.le_of_ble_eq_true rfl) dX12_writeOne_445 ⟨Nat.le_refl _, Nat.le_refl _⟩ (fun u H locs hp hw => ?_)
    obtain rfl := hp
    refine lv_goto (tgt := 484) cx.1 cx.2.1 dX12_writeOne_448 (by decide) ?_
    exact hp_vret cx hw (md_retv h) dX12_writeOne_484
  have h := md_in c13_19 h
  by_cases c13_21 : v16 = 21
  · refine lv_tableIn (off := 347) (tgt := 360) cx.1 cx.2.1 dX12_writeOne_13 (by rw [c13_21]; decide) (by rw [c13_21]; decide) (by rw [c13_21]; decide) (by decide) ?_
    have h := md_ip c13_21 h
    exact J360 σ0 a1 v15 _ _ _ h hw (lv_sub hl [1, 2, 0] rfl)
  have h := md_in c13_21 h
  by_cases c13_22 : v16 = 22
  · refine lv_tableIn (off := 347) (tgt := 360) cx.1 cx.2.1 dX12_writeOne_13 (by rw [c13_22]; decide) (by rw [c13_22]; decide) (by rw [c13_22]; decide) (by decide) ?_
    have h := md_ip c13_22 h
    exact J360 σ0 a1 v15 _ _ _ h hw (lv_sub hl [1, 2, 0] rfl)
  have h := md_in c13_22 h
  by_cases c13_23 : v16 = 23
  · refine lv_tableIn (off := 365) (tgt := 378) cx.1 cx.2.1 dX12_writeOne_13 (by rw [c13_23]; decide) (by rw [c13_23]; decide) (by rw [c13_23]; decide) (by decide) ?_
    have h := md_ip c13_23 h
    refine lv_aload_n cx.1 cx.2.1 dX12_writeOne_378 rfl (lv_at hl 1 rfl) ?_
    refine lv_iload_n cx.1 cx.2.1 dX12_writeOne_379 rfl (lv_at hl 0 rfl) ?_
    obtain ⟨p29, e_p29, h⟩ := md_ob h
    refine hp_callVv (As := [.int v15]) (rest := []) cx hw (ih0 _ σ0 v15 p29 e_p29) (cwV 1 cx.2.2.2.2.2.1 (md_giV mm_420 mm_421 mm_422 mm_5 mm_423) rfl rfl rfl hd_X12_write ⟨by dsimp only; omega, by dsimp only; omega⟩) md_at0 rfl rfl hl.1 rfl (Nat.le_of_ble_eq_true rfl) dX12_writeOne_380 ⟨Nat.le_refl _, Nat.le_refl _⟩ (fun u H locs hp hw => ?_)
    obtain rfl := hp
    refine lv_aload_n cx.1 cx.2.1 dX12_writeOne_383 rfl (lv_at hl 1 rfl) ?_
    refine lv_bipush (v := 23) cx.1 cx.2.1 dX12_writeOne_384 (by decide) ?_
    refine lv_aload_n cx.1 cx.2.1 dX12_writeOne_386 rfl (lv_at hl 1 rfl) ?_
    refine lv_iload_n cx.1 cx.2.1 dX12_writeOne_387 rfl (lv_at hl 2 rfl) ?_
    obtain ⟨p30, e_p30, h⟩ := md_ob h
    refine hp_callVi (As := [.int a1]) (rest := [.int 23, .ref (ad 137)]) cx hw (km_X12_groupNeeds l D cA E _ ad hj hE n p29.2 a1 p30 e_p30) (cwV 1 cx.2.2.2.2.2.1 (md_giV mm_149 mm_150 mm_151 mm_5 mm_152) rfl rfl rfl hd_X12_groupNeeds ⟨by dsimp only; omega, by dsimp only; omega⟩) md_at0 rfl rfl hl.1 rfl (Nat.le_of_ble_eq_true rfl) dX12_writeOne_388 ⟨Nat.le_refl _, Nat.le_refl _⟩ (fun r u H locs hp hw => ?_)
    obtain ⟨rfl, rfl⟩ := hp
    obtain ⟨p31, e_p31, h⟩ := md_ob h
    refine hp_callVv (As := [.int 23, .int p30.1]) (rest := []) cx hw (km_X12_begins l D cA E _ ad hj hE n p30.2 (23 : Int32) (p30.1) p31 e_p31) (cwV 2 cx.2.2.2.2.2.1 (md_giV mm_436 mm_437 mm_438 mm_5 mm_439) rfl rfl rfl hd_X12_begins ⟨by dsimp only; omega, by dsimp only; omega⟩) md_at0 rfl rfl hl.1 rfl (Nat.le_of_ble_eq_true rfl) dX12_writeOne_391 ⟨Nat.le_refl _, Nat.le_refl _⟩ (fun u H locs hp hw => ?_)
    obtain rfl := hp
    refine lv_goto (tgt := 484) cx.1 cx.2.1 dX12_writeOne_394 (by decide) ?_
    exact hp_vret cx hw (md_retv h) dX12_writeOne_484
  have h := md_in c13_23 h
  by_cases c13_24 : v16 = 24
  · refine lv_tableIn (off := 347) (tgt := 360) cx.1 cx.2.1 dX12_writeOne_13 (by rw [c13_24]; decide) (by rw [c13_24]; decide) (by rw [c13_24]; decide) (by decide) ?_
    have h := md_ip c13_24 h
    exact J360 σ0 a1 v15 _ _ _ h hw (lv_sub hl [1, 2, 0] rfl)
  have h := md_in c13_24 h
  by_cases c13_25 : v16 = 25
  · refine lv_tableIn (off := 313) (tgt := 326) cx.1 cx.2.1 dX12_writeOne_13 (by rw [c13_25]; decide) (by rw [c13_25]; decide) (by rw [c13_25]; decide) (by decide) ?_
    have h := md_ip c13_25 h
    exact J326 σ0 a1 v15 _ _ _ h hw (lv_sub hl [1, 2, 0] rfl)
  have h := md_in c13_25 h
  by_cases c13_26 : v16 = 26
  · refine lv_tableIn (off := 313) (tgt := 326) cx.1 cx.2.1 dX12_writeOne_13 (by rw [c13_26]; decide) (by rw [c13_26]; decide) (by rw [c13_26]; decide) (by decide) ?_
    have h := md_ip c13_26 h
    exact J326 σ0 a1 v15 _ _ _ h hw (lv_sub hl [1, 2, 0] rfl)
  have h := md_in c13_26 h
  by_cases c13_27 : v16 = 27
  · refine lv_tableIn (off := 241) (tgt := 254) cx.1 cx.2.1 dX12_writeOne_13 (by rw [c13_27]; decide) (by rw [c13_27]; decide) (by rw [c13_27]; decide) (by decide) ?_
    have h := md_ip c13_27 h
    refine lv_aload_n cx.1 cx.2.1 dX12_writeOne_254 rfl (lv_at hl 1 rfl) ?_
    refine md_gI (k := 78) cx hw hin12c rfl (by decide) (List.mem_cons_of_mem _ mm_409) dX12_writeOne_255 ?_
    refine lv_if_eq (tgt := 277) cx.1 cx.2.1 dX12_writeOne_258 (by decide) (fun c258 => ?_) (fun c258 => ?_)
    · have h := md_ip c258 h
      refine lv_aload_n cx.1 cx.2.1 dX12_writeOne_277 rfl (lv_at hl 1 rfl) ?_
      refine lv_bipush (v := 27) cx.1 cx.2.1 dX12_writeOne_278 (by decide) ?_
      obtain ⟨p32, e_p32, h⟩ := md_ob h
      refine hp_callVv (As := [.int 27]) (rest := []) cx hw (km_X12_put l D cA E _ ad hj hE n σ0 (27 : Int32) p32 e_p32) (cwV 1 cx.2.2.2.2.2.1 (md_giV mm_395 mm_396 mm_397 mm_5 mm_398) rfl rfl rfl hd_X12_put ⟨by dsimp only; omega, by dsimp only; omega⟩) md_at0 rfl rfl hl.1 rfl (Nat.le_of_ble_eq_true rfl) dX12_writeOne_280 ⟨Nat.le_refl _, Nat.le_refl _⟩ (fun u H locs hp hw => ?_)
      obtain rfl := hp
      refine lv_goto (tgt := 484) cx.1 cx.2.1 dX12_writeOne_283 (by decide) ?_
      exact hp_vret cx hw (md_retv h) dX12_writeOne_484
    · have h := md_in c258 h
      refine lv_aload_n cx.1 cx.2.1 dX12_writeOne_261 rfl (lv_at hl 1 rfl) ?_
      refine lv_iconst (v := 2) cx.1 cx.2.1 dX12_writeOne_262 (by decide) ?_
      refine lv_aload_n cx.1 cx.2.1 dX12_writeOne_263 rfl (lv_at hl 1 rfl) ?_
      refine lv_aload_n cx.1 cx.2.1 dX12_writeOne_264 rfl (lv_at hl 1 rfl) ?_
      refine md_gI (k := 79) cx hw hin12c rfl (by decide) (List.mem_cons_of_mem _ mm_410) dX12_writeOne_265 ?_
      obtain ⟨p33, e_p33, h⟩ := md_ob h
      refine hp_callVi (As := [.int (mI σ0 79)]) (rest := [.int 2, .ref (ad 137)]) cx hw (km_X12_localsOf l D cA E _ ad hj hE n σ0 ((mI σ0 79)) p33 e_p33) (cwV 1 cx.2.2.2.2.2.1 (md_giV mm_411 mm_412 mm_413 mm_5 mm_414) rfl rfl rfl hd_X12_localsOf ⟨by dsimp only; omega, by dsimp only; omega⟩) md_at0 rfl rfl hl.1 rfl (Nat.le_of_ble_eq_true rfl) dX12_writeOne_268 ⟨Nat.le_refl _, Nat.le_refl _⟩ (fun r u H locs hp hw => ?_)
      obtain ⟨rfl, rfl⟩ := hp
      obtain ⟨p34, e_p34, h⟩ := md_ob h
      refine hp_callVv (As := [.int 2, .int p33.1]) (rest := []) cx hw (km_X12_put_ l D cA E _ ad hj hE n p33.2 (2 : Int32) (p33.1) p34 e_p34) (cwV 2 cx.2.2.2.2.2.1 (md_giV mm_403 mm_404 mm_405 mm_5 mm_406) rfl rfl rfl hd_X12_put_ ⟨by dsimp only; omega, by dsimp only; omega⟩) md_at0 rfl rfl hl.1 rfl (Nat.le_of_ble_eq_true rfl) dX12_writeOne_271 ⟨Nat.le_refl _, Nat.le_refl _⟩ (fun u H locs hp hw => ?_)
      obtain rfl := hp
      refine lv_goto (tgt := 484) cx.1 cx.2.1 dX12_writeOne_274 (by decide) ?_
      exact hp_vret cx hw (md_retv h) dX12_writeOne_484
  have h := md_in c13_27 h
  by_cases c13_40 : v16 = 40
  · refine lv_tableIn (off := 384) (tgt := 397) cx.1 cx.2.1 dX12_writeOne_13 (by rw [c13_40]; decide) (by rw [c13_40]; decide) (by rw [c13_40]; decide) (by decide) ?_
    have h := md_ip c13_40 h
    refine lv_aload_n cx.1 cx.2.1 dX12_writeOne_397 rfl (lv_at hl 1 rfl) ?_
    refine lv_iload_n cx.1 cx.2.1 dX12_writeOne_398 rfl (lv_at hl 0 rfl) ?_
    obtain ⟨p35, e_p35, h⟩ := md_ob h
    refine hp_callVv (As := [.int v15]) (rest := []) cx hw (ih0 _ σ0 v15 p35 e_p35) (cwV 1 cx.2.2.2.2.2.1 (md_giV mm_420 mm_421 mm_422 mm_5 mm_423) rfl rfl rfl hd_X12_write ⟨by dsimp only; omega, by dsimp only; omega⟩) md_at0 rfl rfl hl.1 rfl (Nat.le_of_ble_eq_true rfl) dX12_writeOne_399 ⟨Nat.le_refl _, Nat.le_refl _⟩ (fun u H locs hp hw => ?_)
    obtain rfl := hp
    refine lv_aload_n cx.1 cx.2.1 dX12_writeOne_402 rfl (lv_at hl 1 rfl) ?_
    refine lv_iconst (v := 3) cx.1 cx.2.1 dX12_writeOne_403 (by decide) ?_
    refine lv_aload_n cx.1 cx.2.1 dX12_writeOne_404 rfl (lv_at hl 1 rfl) ?_
    refine lv_aload_n cx.1 cx.2.1 dX12_writeOne_405 rfl (lv_at hl 1 rfl) ?_
    refine md_gI (k := 79) cx hw hin12c rfl (by decide) (List.mem_cons_of_mem _ mm_410) dX12_writeOne_406 ?_
    refine lv_aload_n cx.1 cx.2.1 dX12_writeOne_409 rfl (lv_at hl 1 rfl) ?_
    refine md_gR (k := 68) cx hw hin12c (by decide) (by decide) (List.mem_cons_of_mem _ mm_131) dX12_writeOne_410 ?_
    refine lv_iload_n cx.1 cx.2.1 dX12_writeOne_413 rfl (lv_at hl 2 rfl) ?_
    obtain ⟨v36, e_v36, h⟩ := md_ob h
    refine md_lI (k := 68) hj cx hw (by decide) rfl rfl rfl e_v36 dX12_writeOne_414 ?_
    obtain ⟨p37, e_p37, h⟩ := md_ob h
    refine hp_callVi (As := [.int (mI p35.2 79), .int v36]) (rest := [.int 3, .ref (ad 137)]) cx hw (km_X12_localOf l D cA E _ ad hj hE n p35.2 ((mI p35.2 79)) v36 p37 e_p37) (cwV 2 cx.2.2.2.2.2.1 (md_giV mm_432 mm_433 mm_434 mm_5 mm_435) rfl rfl rfl hd_X12_localOf ⟨by dsimp only; omega, by dsimp only; omega⟩) md_at0 rfl rfl hl.1 rfl (Nat.le_of_ble_eq_true rfl) dX12_writeOne_415 ⟨Nat.le_refl _, Nat.le_refl _⟩ (fun r u H locs hp hw => ?_)
    obtain ⟨rfl, rfl⟩ := hp
    obtain ⟨p38, e_p38, h⟩ := md_ob h
    refine hp_callVv (As := [.int 3, .int p37.1]) (rest := []) cx hw (km_X12_put_ l D cA E _ ad hj hE n p37.2 (3 : Int32) (p37.1) p38 e_p38) (cwV 2 cx.2.2.2.2.2.1 (md_giV mm_403 mm_404 mm_405 mm_5 mm_406) rfl rfl rfl hd_X12_put_ ⟨by dsimp only; omega, by dsimp only; omega⟩) md_at0 rfl rfl hl.1 rfl (Nat.le_of_ble_eq_true rfl) dX12_writeOne_418 ⟨Nat.le_refl _, Nat.le_refl _⟩ (fun u H locs hp hw => ?_)
    obtain rfl := hp
    refine lv_aload_n cx.1 cx.2.1 dX12_writeOne_421 rfl (lv_at hl 1 rfl) ?_
    refine lv_aload_n cx.1 cx.2.1 dX12_writeOne_422 rfl (lv_at hl 1 rfl) ?_
    refine md_gR (k := 71) cx hw hin12c (by decide) (by decide) (List.mem_cons_of_mem _ mm_134) dX12_writeOne_423 ?_
    refine lv_iload_n cx.1 cx.2.1 dX12_writeOne_426 rfl (lv_at hl 0 rfl) ?_
    obtain ⟨v39, e_v39, h⟩ := md_ob h
    refine md_lI (k := 71) hj cx hw (by decide) rfl rfl rfl e_v39 dX12_writeOne_427 ?_
    obtain ⟨p40, e_p40, h⟩ := md_ob h
    refine hp_callVv (As := [.int v39]) (rest := []) cx hw (ih0 _ p38.2 v39 p40 e_p40) (cwV 1 cx.2.2.2.2.2.1 (md_giV mm_420 mm_421 mm_422 mm_5 mm_423) rfl rfl rfl hd_X12_write ⟨by dsimp only; omega, by dsimp only; omega⟩) md_at0 rfl rfl hl.1 rfl (Nat.le_of_ble_eq_true rfl) dX12_writeOne_428 ⟨Nat.le_refl _, Nat.le_refl _⟩ (fun u H locs hp hw => ?_)
    obtain rfl := hp
    refine lv_goto (tgt := 484) cx.1 cx.2.1 dX12_writeOne_431 (by decide) ?_
    exact hp_vret cx hw (md_retv h) dX12_writeOne_484
  have h := md_in c13_40 h
  by_cases c13_41 : v16 = 41
  · refine lv_tableIn (off := 421) (tgt := 434) cx.1 cx.2.1 dX12_writeOne_13 (by rw [c13_41]; decide) (by rw [c13_41]; decide) (by rw [c13_41]; decide) (by decide) ?_
    have h := md_ip c13_41 h
    refine lv_aload_n cx.1 cx.2.1 dX12_writeOne_434 rfl (lv_at hl 1 rfl) ?_
    refine lv_iload_n cx.1 cx.2.1 dX12_writeOne_435 rfl (lv_at hl 0 rfl) ?_
    obtain ⟨p41, e_p41, h⟩ := md_ob h
    refine hp_callVv (As := [.int v15]) (rest := []) cx hw (ih2 _ σ0 v15 p41 e_p41) (cwV 1 cx.2.2.2.2.2.1 (md_giV mm_448 mm_449 mm_450 mm_5 mm_451) rfl rfl rfl hd_X12_writeIf ⟨by dsimp only; omega, by dsimp only; omega⟩) md_at0 rfl rfl hl.1 rfl (Nat.le_of_ble_eq_true rfl) dX12_writeOne_436 ⟨Nat.le_refl _, Nat.le_refl _⟩ (fun u H locs hp hw => ?_)
    obtain rfl := hp
    refine lv_goto (tgt := 484) cx.1 cx.2.1 dX12_writeOne_439 (by decide) ?_
    exact hp_vret cx hw (md_retv h) dX12_writeOne_484
  have h := md_in c13_41 h
  have nc13_0 := md_nei c13_0
  have nc13_1 := md_nei c13_1
  have nc13_2 := md_nei c13_2
  have nc13_4 := md_nei c13_4
  have nc13_9 := md_nei c13_9
  have nc13_10 := md_nei c13_10
  have nc13_19 := md_nei c13_19
  have nc13_21 := md_nei c13_21
  have nc13_22 := md_nei c13_22
  have nc13_23 := md_nei c13_23
  have nc13_24 := md_nei c13_24
  have nc13_25 := md_nei c13_25
  have nc13_26 := md_nei c13_26
  have nc13_27 := md_nei c13_27
  have nc13_40 := md_nei c13_40
  have nc13_41 := md_nei c13_41
  by_cases c13_3 : v16 = 3
  · refine lv_tableIn (off := 438) (tgt := 451) cx.1 cx.2.1 dX12_writeOne_13 (by rw [c13_3]; decide) (by rw [c13_3]; decide) (by rw [c13_3]; decide) (by decide) ?_
    exact J451 σ0 v15 _ _ _ h hw (lv_sub hl [1, 0] rfl)
  have nc13_3 := md_nei c13_3
  by_cases c13_5 : v16 = 5
  · refine lv_tableIn (off := 438) (tgt := 451) cx.1 cx.2.1 dX12_writeOne_13 (by rw [c13_5]; decide) (by rw [c13_5]; decide) (by rw [c13_5]; decide) (by decide) ?_
    exact J451 σ0 v15 _ _ _ h hw (lv_sub hl [1, 0] rfl)
  have nc13_5 := md_nei c13_5
  by_cases c13_6 : v16 = 6
  · refine lv_tableIn (off := 438) (tgt := 451) cx.1 cx.2.1 dX12_writeOne_13 (by rw [c13_6]; decide) (by rw [c13_6]; decide) (by rw [c13_6]; decide) (by decide) ?_
    exact J451 σ0 v15 _ _ _ h hw (lv_sub hl [1, 0] rfl)
  have nc13_6 := md_nei c13_6
  by_cases c13_7 : v16 = 7
  · refine lv_tableIn (off := 438) (tgt := 451) cx.1 cx.2.1 dX12_writeOne_13 (by rw [c13_7]; decide) (by rw [c13_7]; decide) (by rw [c13_7]; decide) (by decide) ?_
    exact J451 σ0 v15 _ _ _ h hw (lv_sub hl [1, 0] rfl)
  have nc13_7 := md_nei c13_7
  by_cases c13_8 : v16 = 8
  · refine lv_tableIn (off := 438) (tgt := 451) cx.1 cx.2.1 dX12_writeOne_13 (by rw [c13_8]; decide) (by rw [c13_8]; decide) (by rw [c13_8]; decide) (by decide) ?_
    exact J451 σ0 v15 _ _ _ h hw (lv_sub hl [1, 0] rfl)
  have nc13_8 := md_nei c13_8
  by_cases c13_11 : v16 = 11
  · refine lv_tableIn (off := 438) (tgt := 451) cx.1 cx.2.1 dX12_writeOne_13 (by rw [c13_11]; decide) (by rw [c13_11]; decide) (by rw [c13_11]; decide) (by decide) ?_
    exact J451 σ0 v15 _ _ _ h hw (lv_sub hl [1, 0] rfl)
  have nc13_11 := md_nei c13_11
  by_cases c13_12 : v16 = 12
  · refine lv_tableIn (off := 438) (tgt := 451) cx.1 cx.2.1 dX12_writeOne_13 (by rw [c13_12]; decide) (by rw [c13_12]; decide) (by rw [c13_12]; decide) (by decide) ?_
    exact J451 σ0 v15 _ _ _ h hw (lv_sub hl [1, 0] rfl)
  have nc13_12 := md_nei c13_12
  by_cases c13_13 : v16 = 13
  · refine lv_tableIn (off := 438) (tgt := 451) cx.1 cx.2.1 dX12_writeOne_13 (by rw [c13_13]; decide) (by rw [c13_13]; decide) (by rw [c13_13]; decide) (by decide) ?_
    exact J451 σ0 v15 _ _ _ h hw (lv_sub hl [1, 0] rfl)
  have nc13_13 := md_nei c13_13
  by_cases c13_14 : v16 = 14
  · refine lv_tableIn (off := 438) (tgt := 451) cx.1 cx.2.1 dX12_writeOne_13 (by rw [c13_14]; decide) (by rw [c13_14]; decide) (by rw [c13_14]; decide) (by decide) ?_
    exact J451 σ0 v15 _ _ _ h hw (lv_sub hl [1, 0] rfl)
  have nc13_14 := md_nei c13_14
  by_cases c13_15 : v16 = 15
  · refine lv_tableIn (off := 438) (tgt := 451) cx.1 cx.2.1 dX12_writeOne_13 (by rw [c13_15]; decide) (by rw [c13_15]; decide) (by rw [c13_15]; decide) (by decide) ?_
    exact J451 σ0 v15 _ _ _ h hw (lv_sub hl [1, 0] rfl)
  have nc13_15 := md_nei c13_15
  by_cases c13_16 : v16 = 16
  · refine lv_tableIn (off := 438) (tgt := 451) cx.1 cx.2.1 dX12_writeOne_13 (by rw [c13_16]; decide) (by rw [c13_16]; decide) (by rw [c13_16]; decide) (by decide) ?_
    exact J451 σ0 v15 _ _ _ h hw (lv_sub hl [1, 0] rfl)
  have nc13_16 := md_nei c13_16
  by_cases c13_17 : v16 = 17
  · refine lv_tableIn (off := 438) (tgt := 451) cx.1 cx.2.1 dX12_writeOne_13 (by rw [c13_17]; decide) (by rw [c13_17]; decide) (by rw [c13_17]; decide) (by decide) ?_
    exact J451 σ0 v15 _ _ _ h hw (lv_sub hl [1, 0] rfl)
  have nc13_17 := md_nei c13_17
  by_cases c13_18 : v16 = 18
  · refine lv_tableIn (off := 438) (tgt := 451) cx.1 cx.2.1 dX12_writeOne_13 (by rw [c13_18]; decide) (by rw [c13_18]; decide) (by rw [c13_18]; decide) (by decide) ?_
    exact J451 σ0 v15 _ _ _ h hw (lv_sub hl [1, 0] rfl)
  have nc13_18 := md_nei c13_18
  by_cases c13_20 : v16 = 20
  · refine lv_tableIn (off := 438) (tgt := 451) cx.1 cx.2.1 dX12_writeOne_13 (by rw [c13_20]; decide) (by rw [c13_20]; decide) (by rw [c13_20]; decide) (by decide) ?_
    exact J451 σ0 v15 _ _ _ h hw (lv_sub hl [1, 0] rfl)
  have nc13_20 := md_nei c13_20
  by_cases c13_28 : v16 = 28
  · refine lv_tableIn (off := 438) (tgt := 451) cx.1 cx.2.1 dX12_writeOne_13 (by rw [c13_28]; decide) (by rw [c13_28]; decide) (by rw [c13_28]; decide) (by decide) ?_
    exact J451 σ0 v15 _ _ _ h hw (lv_sub hl [1, 0] rfl)
  have nc13_28 := md_nei c13_28
  by_cases c13_29 : v16 = 29
  · refine lv_tableIn (off := 438) (tgt := 451) cx.1 cx.2.1 dX12_writeOne_13 (by rw [c13_29]; decide) (by rw [c13_29]; decide) (by rw [c13_29]; decide) (by decide) ?_
    exact J451 σ0 v15 _ _ _ h hw (lv_sub hl [1, 0] rfl)
  have nc13_29 := md_nei c13_29
  by_cases c13_30 : v16 = 30
  · refine lv_tableIn (off := 438) (tgt := 451) cx.1 cx.2.1 dX12_writeOne_13 (by rw [c13_30]; decide) (by rw [c13_30]; decide) (by rw [c13_30]; decide) (by decide) ?_
    exact J451 σ0 v15 _ _ _ h hw (lv_sub hl [1, 0] rfl)
  have nc13_30 := md_nei c13_30
  by_cases c13_31 : v16 = 31
  · refine lv_tableIn (off := 438) (tgt := 451) cx.1 cx.2.1 dX12_writeOne_13 (by rw [c13_31]; decide) (by rw [c13_31]; decide) (by rw [c13_31]; decide) (by decide) ?_
    exact J451 σ0 v15 _ _ _ h hw (lv_sub hl [1, 0] rfl)
  have nc13_31 := md_nei c13_31
  by_cases c13_32 : v16 = 32
  · refine lv_tableIn (off := 438) (tgt := 451) cx.1 cx.2.1 dX12_writeOne_13 (by rw [c13_32]; decide) (by rw [c13_32]; decide) (by rw [c13_32]; decide) (by decide) ?_
    exact J451 σ0 v15 _ _ _ h hw (lv_sub hl [1, 0] rfl)
  have nc13_32 := md_nei c13_32
  by_cases c13_33 : v16 = 33
  · refine lv_tableIn (off := 438) (tgt := 451) cx.1 cx.2.1 dX12_writeOne_13 (by rw [c13_33]; decide) (by rw [c13_33]; decide) (by rw [c13_33]; decide) (by decide) ?_
    exact J451 σ0 v15 _ _ _ h hw (lv_sub hl [1, 0] rfl)
  have nc13_33 := md_nei c13_33
  by_cases c13_34 : v16 = 34
  · refine lv_tableIn (off := 438) (tgt := 451) cx.1 cx.2.1 dX12_writeOne_13 (by rw [c13_34]; decide) (by rw [c13_34]; decide) (by rw [c13_34]; decide) (by decide) ?_
    exact J451 σ0 v15 _ _ _ h hw (lv_sub hl [1, 0] rfl)
  have nc13_34 := md_nei c13_34
  by_cases c13_35 : v16 = 35
  · refine lv_tableIn (off := 438) (tgt := 451) cx.1 cx.2.1 dX12_writeOne_13 (by rw [c13_35]; decide) (by rw [c13_35]; decide) (by rw [c13_35]; decide) (by decide) ?_
    exact J451 σ0 v15 _ _ _ h hw (lv_sub hl [1, 0] rfl)
  have nc13_35 := md_nei c13_35
  by_cases c13_36 : v16 = 36
  · refine lv_tableIn (off := 438) (tgt := 451) cx.1 cx.2.1 dX12_writeOne_13 (by rw [c13_36]; decide) (by rw [c13_36]; decide) (by rw [c13_36]; decide) (by decide) ?_
    exact J451 σ0 v15 _ _ _ h hw (lv_sub hl [1, 0] rfl)
  have nc13_36 := md_nei c13_36
  by_cases c13_37 : v16 = 37
  · refine lv_tableIn (off := 438) (tgt := 451) cx.1 cx.2.1 dX12_writeOne_13 (by rw [c13_37]; decide) (by rw [c13_37]; decide) (by rw [c13_37]; decide) (by decide) ?_
    exact J451 σ0 v15 _ _ _ h hw (lv_sub hl [1, 0] rfl)
  have nc13_37 := md_nei c13_37
  by_cases c13_38 : v16 = 38
  · refine lv_tableIn (off := 438) (tgt := 451) cx.1 cx.2.1 dX12_writeOne_13 (by rw [c13_38]; decide) (by rw [c13_38]; decide) (by rw [c13_38]; decide) (by decide) ?_
    exact J451 σ0 v15 _ _ _ h hw (lv_sub hl [1, 0] rfl)
  have nc13_38 := md_nei c13_38
  by_cases c13_39 : v16 = 39
  · refine lv_tableIn (off := 438) (tgt := 451) cx.1 cx.2.1 dX12_writeOne_13 (by rw [c13_39]; decide) (by rw [c13_39]; decide) (by rw [c13_39]; decide) (by decide) ?_
    exact J451 σ0 v15 _ _ _ h hw (lv_sub hl [1, 0] rfl)
  have nc13_39 := md_nei c13_39
  refine lv_tableOut (tgt := 451) cx.1 cx.2.1 dX12_writeOne_13 (by have := nc13_0; rw [show ((0 : Int32)).toInt = 0 from by decide] at this; have := nc13_1; rw [show ((1 : Int32)).toInt = 1 from by decide] at this; have := nc13_2; rw [show ((2 : Int32)).toInt = 2 from by decide] at this; have := nc13_4; rw [show ((4 : Int32)).toInt = 4 from by decide] at this; have := nc13_9; rw [show ((9 : Int32)).toInt = 9 from by decide] at this; have := nc13_10; rw [show ((10 : Int32)).toInt = 10 from by decide] at this; have := nc13_19; rw [show ((19 : Int32)).toInt = 19 from by decide] at this; have := nc13_21; rw [show ((21 : Int32)).toInt = 21 from by decide] at this; have := nc13_22; rw [show ((22 : Int32)).toInt = 22 from by decide] at this; have := nc13_23; rw [show ((23 : Int32)).toInt = 23 from by decide] at this; have := nc13_24; rw [show ((24 : Int32)).toInt = 24 from by decide] at this; have := nc13_25; rw [show ((25 : Int32)).toInt = 25 from by decide] at this; have := nc13_26; rw [show ((26 : Int32)).toInt = 26 from by decide] at this; have := nc13_27; rw [show ((27 : Int32)).toInt = 27 from by decide] at this; have := nc13_40; rw [show ((40 : Int32)).toInt = 40 from by decide] at this; have := nc13_41; rw [show ((41 : Int32)).toInt = 41 from by decide] at this; have := nc13_3; rw [show ((3 : Int32)).toInt = 3 from by decide] at this; have := nc13_5; rw [show ((5 : Int32)).toInt = 5 from by decide] at this; have := nc13_6; rw [show ((6 : Int32)).toInt = 6 from by decide] at this; have := nc13_7; rw [show ((7 : Int32)).toInt = 7 from by decide] at this; have := nc13_8; rw [show ((8 : Int32)).toInt = 8 from by decide] at this; have := nc13_11; rw [show ((11 : Int32)).toInt = 11 from by decide] at this; have := nc13_12; rw [show ((12 : Int32)).toInt = 12 from by decide] at this; have := nc13_13; rw [show ((13 : Int32)).toInt = 13 from by decide] at this; have := nc13_14; rw [show ((14 : Int32)).toInt = 14 from by decide] at this; have := nc13_15; rw [show ((15 : Int32)).toInt = 15 from by decide] at this; have := nc13_16; rw [show ((16 : Int32)).toInt = 16 from by decide] at this; have := nc13_17; rw [show ((17 : Int32)).toInt = 17 from by decide] at this; have := nc13_18; rw [show ((18 : Int32)).toInt = 18 from by decide] at this; have := nc13_20; rw [show ((20 : Int32)).toInt = 20 from by decide] at this; have := nc13_28; rw [show ((28 : Int32)).toInt = 28 from by decide] at this; have := nc13_29; rw [show ((29 : Int32)).toInt = 29 from by decide] at this; have := nc13_30; rw [show ((30 : Int32)).toInt = 30 from by decide] at this; have := nc13_31; rw [show ((31 : Int32)).toInt = 31 from by decide] at this; have := nc13_32; rw [show ((32 : Int32)).toInt = 32 from by decide] at this; have := nc13_33; rw [show ((33 : Int32)).toInt = 33 from by decide] at this; have := nc13_34; rw [show ((34 : Int32)).toInt = 34 from by decide] at this; have := nc13_35; rw [show ((35 : Int32)).toInt = 35 from by decide] at this; have := nc13_36; rw [show ((36 : Int32)).toInt = 36 from by decide] at this; have := nc13_37; rw [show ((37 : Int32)).toInt = 37 from by decide] at this; have := nc13_38; rw [show ((38 : Int32)).toInt = 38 from by decide] at this; have := nc13_39; rw [show ((39 : Int32)).toInt = 39 from by decide] at this;  omega) (by decide) ?_
  exact J451 σ0 v15 _ _ _ h hw (lv_sub hl [1, 0] rfl)
set_option maxHeartbeats 4000000 in
set_option maxRecDepth 100000 in
theorem km_X12_writeSpine (l : Launch) (D : va_G) (cA : Nat → ClassId) (E : hp_N) (sz : Nat) (ad : Nat → Nat) (hj : md_inj ad) (hE : md_E E) (n : Nat) (σ0 : md_S) (a1 : Int32) (p : (Int32 × md_S)) (h : f_X12_writeSpine n σ0 a1 = some p) : Met l yX12_writeSpine (Cond.code yX12_writeSpine cX12_writeSpine 3 none :: v_MOD) ({ frames := 4, cells := 0, slots := 0, locals := 86 }) (hp_Pc D vwCl (hp_Tl cA) E sz (md_pic cA ad σ0) [.ref (ad 137), .int a1]) (hp_Qv D vwCl (hp_Tl cA) sz (md_pic cA ad σ0) (fun u => u = md_pic cA ad p.2)) 0 0 (hp_A (md_pic cA ad σ0) sz) := by
  refine hp_ofW (cc := cX12_writeSpine) (maxL := 3) (ret := none) (by decide) rfl (Nat.le_of_ble_eq_true rfl) ?_
  intro pp ee ss mm bb mt cd ls cx hsz hw hl
  have hl : lv_has ls 3 [(0, .ref (ad 137)), (1, .int a1)] := hl
  have J18 : ∀ (σ : md_S) (l1 : Int32) (l2 : Int32) (H : Heap) (locs : List Loc) (ls : Array Slot), f_X12_writeSpine_J18 n σ l1 l2 = some p → hp_w D vwCl (hp_Tl cA) E (hp_A (md_pic cA ad σ0) sz) ss H locs (md_pic cA ad σ) → lv_has ls 3 [(0, .ref (ad 137)), (1, .int l1), (2, .int l2)] → W pp l ee ({ frames := 4, cells := 0, slots := 0, locals := 86 }) ss mm [.ref (ad 137), .int a1].toArray bb mt cd H locs 0 0 (MQ bb (hp_Qv D vwCl (hp_Tl cA) sz (md_pic cA ad σ0) (fun u => u = md_pic cA ad p.2)) [.ref (ad 137), .int a1].toArray ss 0 0 (hp_A (md_pic cA ad σ0) sz)) (F0 mm 18 ls []) := by
    intro σ l1 l2 H locs ls h hw hl
    refine lv_aload_n cx.1 cx.2.1 dX12_writeSpine_18 rfl (lv_at hl 0 rfl) ?_
    refine lv_iload_n cx.1 cx.2.1 dX12_writeSpine_19 rfl (lv_at hl 2 rfl) ?_
    refine lv_aload_n cx.1 cx.2.1 dX12_writeSpine_20 rfl (lv_at hl 0 rfl) ?_
    refine md_gR (k := 68) cx hw hin12c (by decide) (by decide) (List.mem_cons_of_mem _ mm_131) dX12_writeSpine_21 ?_
    refine lv_iload_n cx.1 cx.2.1 dX12_writeSpine_24 rfl (lv_at hl 1 rfl) ?_
    obtain ⟨v1, e_v1, h⟩ := md_ob h
    refine md_lI (k := 68) hj cx hw (by decide) rfl rfl rfl e_v1 dX12_writeSpine_25 ?_
    obtain ⟨p2, e_p2, h⟩ := md_ob h
    refine hp_callVv (As := [.int l2, .int v1]) (rest := []) cx hw (km_X12_put_ l D cA E _ ad hj hE n σ l2 v1 p2 e_p2) (cwV 2 cx.2.2.2.2.2.1 (md_giV mm_403 mm_404 mm_405 mm_5 mm_406) rfl rfl rfl hd_X12_put_ ⟨Nat.le_of_ble_eq_true rfl, Nat.le_of_ble_eq_true rfl⟩) md_at0 rfl rfl hl.1 rfl (Nat.le_of_ble_eq_true rfl) dX12_writeSpine_26 ⟨Nat.le_refl _, Nat.le_refl _⟩ (fun u H locs hp hw => ?_)
    obtain rfl := hp
    refine lv_goto (tgt := 105) cx.1 cx.2.1 dX12_writeSpine_29 (by decide) ?_
    exact hp_vret cx hw (md_retv h) dX12_writeSpine_105
  refine lv_aload_n cx.1 cx.2.1 dX12_writeSpine_0 rfl (lv_at hl 0 rfl) ?_
  refine md_gR (k := 66) cx hw hin12c (by decide) (by decide) (List.mem_cons_of_mem _ mm_128) dX12_writeSpine_1 ?_
  refine lv_iload_n cx.1 cx.2.1 dX12_writeSpine_4 rfl (lv_at hl 1 rfl) ?_
  obtain ⟨v3, e_v3, h⟩ := md_ob h
  refine md_lI (k := 66) hj cx hw (by decide) rfl rfl rfl e_v3 dX12_writeSpine_5 ?_
  refine lv_istore_n (lv' := [(2, .int v3), (0, .ref (ad 137)), (1, .int a1)]) cx.1 cx.2.1 dX12_writeSpine_6 rfl hl (by decide) rfl (fun ls hl => ?_)
  refine lv_iload_n cx.1 cx.2.1 dX12_writeSpine_7 rfl (lv_at hl 0 rfl) ?_
  refine lv_iconst (v := 5) cx.1 cx.2.1 dX12_writeSpine_8 (by decide) ?_
  refine lv_icmp_eq (tgt := 18) cx.1 cx.2.1 dX12_writeSpine_9 (by decide) (fun c9 => ?_) (fun c9 => ?_)
  · have h := md_ip c9 h
    exact J18 σ0 a1 v3 _ _ _ h hw (lv_sub hl [1, 2, 0] rfl)
  · have h := md_in c9 h
    refine lv_iload_n cx.1 cx.2.1 dX12_writeSpine_12 rfl (lv_at hl 0 rfl) ?_
    refine lv_bipush (v := 6) cx.1 cx.2.1 dX12_writeSpine_13 (by decide) ?_
    refine lv_icmp_ne (tgt := 32) cx.1 cx.2.1 dX12_writeSpine_15 (by decide) (fun c15 => ?_) (fun c15 => ?_)
    · have h := md_in c15 h
      refine lv_iload_n cx.1 cx.2.1 dX12_writeSpine_32 rfl (lv_at hl 0 rfl) ?_
      refine lv_bipush (v := 7) cx.1 cx.2.1 dX12_writeSpine_33 (by decide) ?_
      refine lv_icmp_ne (tgt := 71) cx.1 cx.2.1 dX12_writeSpine_35 (by decide) (fun c35 => ?_) (fun c35 => ?_)
      · have h := md_in c35 h
        refine lv_iload_n cx.1 cx.2.1 dX12_writeSpine_71 rfl (lv_at hl 0 rfl) ?_
        refine lv_bipush (v := 8) cx.1 cx.2.1 dX12_writeSpine_72 (by decide) ?_
        refine lv_icmp_ne (tgt := 100) cx.1 cx.2.1 dX12_writeSpine_74 (by decide) (fun c74 => ?_) (fun c74 => ?_)
        · have h := md_in c74 h
          refine lv_aload_n cx.1 cx.2.1 dX12_writeSpine_100 rfl (lv_at hl 1 rfl) ?_
          refine lv_iload_n cx.1 cx.2.1 dX12_writeSpine_101 rfl (lv_at hl 0 rfl) ?_
          obtain ⟨p4, e_p4, h⟩ := md_ob h
          refine hp_callVv (As := [.int v3]) (rest := []) cx hw (km_X12_put l D cA E _ ad hj hE n σ0 v3 p4 e_p4) (cwV 1 cx.2.2.2.2.2.1 (md_giV mm_395 mm_396 mm_397 mm_5 mm_398) rfl rfl rfl hd_X12_put ⟨Nat.le_of_ble_eq_true rfl, Nat.le_of_ble_eq_true rfl⟩) md_at0 rfl rfl hl.1 rfl (Nat.le_of_ble_eq_true rfl) dX12_writeSpine_102 ⟨Nat.le_refl _, Nat.le_refl _⟩ (fun u H locs hp hw => ?_)
          obtain rfl := hp
          exact hp_vret cx hw (md_retv h) dX12_writeSpine_105
        · have h := md_ip c74 h
          refine lv_aload_n cx.1 cx.2.1 dX12_writeSpine_77 rfl (lv_at hl 1 rfl) ?_
          refine lv_iload_n cx.1 cx.2.1 dX12_writeSpine_78 rfl (lv_at hl 0 rfl) ?_
          refine lv_aload_n cx.1 cx.2.1 dX12_writeSpine_79 rfl (lv_at hl 1 rfl) ?_
          refine lv_iload_n cx.1 cx.2.1 dX12_writeSpine_80 rfl (lv_at hl 2 rfl) ?_
          obtain ⟨p5, e_p5, h⟩ := md_ob h
          refine hp_callVi (As := [.int a1]) (rest := [.int v3, .ref (ad 137)]) cx hw (km_X12_groupNeeds l D cA E _ ad hj hE n σ0 a1 p5 e_p5) (cwV 1 cx.2.2.2.2.2.1 (md_giV mm_149 mm_150 mm_151 mm_5 mm_152) rfl rfl rfl hd_X12_groupNeeds ⟨Nat.le_of_ble_eq_true rfl, Nat.le_of_ble_eq_true rfl⟩) md_at0 rfl rfl hl.1 rfl (Nat.le_of_ble_eq_true rfl) dX12_writeSpine_81 ⟨Nat.le_refl _, Nat.le_refl _⟩ (fun r u H locs hp hw => ?_)
          obtain ⟨rfl, rfl⟩ := hp
          obtain ⟨p6, e_p6, h⟩ := md_ob h
          refine hp_callVv (As := [.int v3, .int p5.1]) (rest := []) cx hw (km_X12_begins l D cA E _ ad hj hE n p5.2 v3 (p5.1) p6 e_p6) (cwV 2 cx.2.2.2.2.2.1 (md_giV mm_436 mm_437 mm_438 mm_5 mm_439) rfl rfl rfl hd_X12_begins ⟨Nat.le_of_ble_eq_true rfl, Nat.le_of_ble_eq_true rfl⟩) md_at0 rfl rfl hl.1 rfl (Nat.le_of_ble_eq_true rfl) dX12_writeSpine_84 ⟨Nat.le_refl _, Nat.le_refl _⟩ (fun u H locs hp hw => ?_)
          obtain rfl := hp
          refine lv_aload_n cx.1 cx.2.1 dX12_writeSpine_87 rfl (lv_at hl 1 rfl) ?_
          refine lv_aload_n cx.1 cx.2.1 dX12_writeSpine_88 rfl (lv_at hl 1 rfl) ?_
          refine md_gR (k := 68) cx hw hin12c (by decide) (by decide) (List.mem_cons_of_mem _ mm_131) dX12_writeSpine_89 ?_
          refine lv_iload_n cx.1 cx.2.1 dX12_writeSpine_92 rfl (lv_at hl 2 rfl) ?_
          obtain ⟨v7, e_v7, h⟩ := md_ob h
          refine md_lI (k := 68) hj cx hw (by decide) rfl rfl rfl e_v7 dX12_writeSpine_93 ?_
          obtain ⟨p8, e_p8, h⟩ := md_ob h
          refine hp_callVv (As := [.int v7]) (rest := []) cx hw (km_X12_putNumber l D cA E _ ad hj hE n p6.2 v7 p8 e_p8) (cwV 1 cx.2.2.2.2.2.1 (md_giV mm_399 mm_400 mm_401 mm_5 mm_402) rfl rfl rfl hd_X12_putNumber ⟨Nat.le_of_ble_eq_true rfl, Nat.le_of_ble_eq_true rfl⟩) md_at0 rfl rfl hl.1 rfl (Nat.le_of_ble_eq_true rfl) dX12_writeSpine_94 ⟨Nat.le_refl _, Nat.le_refl _⟩ (fun u H locs hp hw => ?_)
          obtain rfl := hp
          refine lv_goto (tgt := 105) cx.1 cx.2.1 dX12_writeSpine_97 (by decide) ?_
          exact hp_vret cx hw (md_retv h) dX12_writeSpine_105
      · have h := md_ip c35 h
        refine lv_aload_n cx.1 cx.2.1 dX12_writeSpine_38 rfl (lv_at hl 1 rfl) ?_
        refine lv_iload_n cx.1 cx.2.1 dX12_writeSpine_39 rfl (lv_at hl 0 rfl) ?_
        refine lv_aload_n cx.1 cx.2.1 dX12_writeSpine_40 rfl (lv_at hl 1 rfl) ?_
        refine lv_iload_n cx.1 cx.2.1 dX12_writeSpine_41 rfl (lv_at hl 2 rfl) ?_
        obtain ⟨p9, e_p9, h⟩ := md_ob h
        refine hp_callVi (As := [.int a1]) (rest := [.int v3, .ref (ad 137)]) cx hw (km_X12_groupNeeds l D cA E _ ad hj hE n σ0 a1 p9 e_p9) (cwV 1 cx.2.2.2.2.2.1 (md_giV mm_149 mm_150 mm_151 mm_5 mm_152) rfl rfl rfl hd_X12_groupNeeds ⟨Nat.le_of_ble_eq_true rfl, Nat.le_of_ble_eq_true rfl⟩) md_at0 rfl rfl hl.1 rfl (Nat.le_of_ble_eq_true rfl) dX12_writeSpine_42 ⟨Nat.le_refl _, Nat.le_refl _⟩ (fun r u H locs hp hw => ?_)
        obtain ⟨rfl, rfl⟩ := hp
        obtain ⟨p10, e_p10, h⟩ := md_ob h
        refine hp_callVv (As := [.int v3, .int p9.1]) (rest := []) cx hw (km_X12_begins l D cA E _ ad hj hE n p9.2 v3 (p9.1) p10 e_p10) (cwV 2 cx.2.2.2.2.2.1 (md_giV mm_436 mm_437 mm_438 mm_5 mm_439) rfl rfl rfl hd_X12_begins ⟨Nat.le_of_ble_eq_true rfl, Nat.le_of_ble_eq_true rfl⟩) md_at0 rfl rfl hl.1 rfl (Nat.le_of_ble_eq_true rfl) dX12_writeSpine_45 ⟨Nat.le_refl _, Nat.le_refl _⟩ (fun u H locs hp hw => ?_)
        obtain rfl := hp
        refine lv_aload_n cx.1 cx.2.1 dX12_writeSpine_48 rfl (lv_at hl 1 rfl) ?_
        refine lv_aload_n cx.1 cx.2.1 dX12_writeSpine_49 rfl (lv_at hl 1 rfl) ?_
        refine md_gR (k := 68) cx hw hin12c (by decide) (by decide) (List.mem_cons_of_mem _ mm_131) dX12_writeSpine_50 ?_
        refine lv_iload_n cx.1 cx.2.1 dX12_writeSpine_53 rfl (lv_at hl 2 rfl) ?_
        obtain ⟨v11, e_v11, h⟩ := md_ob h
        refine md_lI (k := 68) hj cx hw (by decide) rfl rfl rfl e_v11 dX12_writeSpine_54 ?_
        obtain ⟨p12, e_p12, h⟩ := md_ob h
        refine hp_callVv (As := [.int v11]) (rest := []) cx hw (km_X12_putNumber l D cA E _ ad hj hE n p10.2 v11 p12 e_p12) (cwV 1 cx.2.2.2.2.2.1 (md_giV mm_399 mm_400 mm_401 mm_5 mm_402) rfl rfl rfl hd_X12_putNumber ⟨Nat.le_of_ble_eq_true rfl, Nat.le_of_ble_eq_true rfl⟩) md_at0 rfl rfl hl.1 rfl (Nat.le_of_ble_eq_true rfl) dX12_writeSpine_55 ⟨Nat.le_refl _, Nat.le_refl _⟩ (fun u H locs hp hw => ?_)
        obtain rfl := hp
        refine lv_aload_n cx.1 cx.2.1 dX12_writeSpine_58 rfl (lv_at hl 1 rfl) ?_
        refine lv_aload_n cx.1 cx.2.1 dX12_writeSpine_59 rfl (lv_at hl 1 rfl) ?_
        refine md_gR (k := 69) cx hw hin12c (by decide) (by decide) (List.mem_cons_of_mem _ mm_132) dX12_writeSpine_60 ?_
        refine lv_iload_n cx.1 cx.2.1 dX12_writeSpine_63 rfl (lv_at hl 2 rfl) ?_
        obtain ⟨v13, e_v13, h⟩ := md_ob h
        refine md_lI (k := 69) hj cx hw (by decide) rfl rfl rfl e_v13 dX12_writeSpine_64 ?_
        obtain ⟨p14, e_p14, h⟩ := md_ob h
        refine hp_callVv (As := [.int v13]) (rest := []) cx hw (km_X12_putNumber l D cA E _ ad hj hE n p12.2 v13 p14 e_p14) (cwV 1 cx.2.2.2.2.2.1 (md_giV mm_399 mm_400 mm_401 mm_5 mm_402) rfl rfl rfl hd_X12_putNumber ⟨Nat.le_of_ble_eq_true rfl, Nat.le_of_ble_eq_true rfl⟩) md_at0 rfl rfl hl.1 rfl (Nat.le_of_ble_eq_true rfl) dX12_writeSpine_65 ⟨Nat.le_refl _, Nat.le_refl _⟩ (fun u H locs hp hw => ?_)
        obtain rfl := hp
        refine lv_goto (tgt := 105) cx.1 cx.2.1 dX12_writeSpine_68 (by decide) ?_
        exact hp_vret cx hw (md_retv h) dX12_writeSpine_105
    · have h := md_ip c15 h
      exact J18 σ0 a1 v3 _ _ _ h hw (lv_sub hl [1, 2, 0] rfl)
set_option maxHeartbeats 4000000 in
set_option maxRecDepth 100000 in
theorem km_X12_write (l : Launch) (D : va_G) (cA : Nat → ClassId) (E : hp_N) (sz : Nat) (ad : Nat → Nat) (hj : md_inj ad) (hE : md_E E) (n d : Nat) (rec : md_R) (ih0 : ∀ (sz : Nat) (σ : md_S) (b0 : Int32) (p : Int32 × md_S), rec 0 b0 0 0 σ = some p → Met l yX12_write (Cond.code yX12_write cX12_write 4 none :: v_MOD) ({ frames := d + 5, cells := 0, slots := 0, locals := 24 * d + 109 }) (hp_Pc D vwCl (hp_Tl cA) E sz (md_pic cA ad σ) [.ref (ad 137), .int b0]) (hp_Qv D vwCl (hp_Tl cA) sz (md_pic cA ad σ) (fun u => u = md_pic cA ad p.2)) 0 0 (hp_A (md_pic cA ad σ) sz)) (ih1 : ∀ (sz : Nat) (σ : md_S) (b0 : Int32) (p : Int32 × md_S), rec 1 b0 0 0 σ = some p → Met l yX12_writeOne (Cond.code yX12_writeOne cX12_writeOne 4 none :: v_MOD) ({ frames := d + 5, cells := 0, slots := 0, locals := 24 * d + 109 }) (hp_Pc D vwCl (hp_Tl cA) E sz (md_pic cA ad σ) [.ref (ad 137), .int b0]) (hp_Qv D vwCl (hp_Tl cA) sz (md_pic cA ad σ) (fun u => u = md_pic cA ad p.2)) 0 0 (hp_A (md_pic cA ad σ) sz)) (σ0 : md_S) (a1 : Int32) (p : (Int32 × md_S)) (h : f_X12_write n rec σ0 a1 = some p) : Met l yX12_write (Cond.code yX12_write cX12_write 4 none :: v_MOD) ({ frames := (d + 1) + 5, cells := 0, slots := 0, locals := 24 * ((d + 1)) + 109 }) (hp_Pc D vwCl (hp_Tl cA) E sz (md_pic cA ad σ0) [.ref (ad 137), .int a1]) (hp_Qv D vwCl (hp_Tl cA) sz (md_pic cA ad σ0) (fun u => u = md_pic cA ad p.2)) 0 0 (hp_A (md_pic cA ad σ0) sz) := by
  refine hp_ofW (cc := cX12_write) (maxL := 4) (ret := none) (by decide) rfl (Nat.le_of_ble_eq_true rfl) ?_
  intro pp ee ss mm bb mt cd ls cx hsz hw hl
  have hl : lv_has ls 4 [(0, .ref (ad 137)), (1, .int a1)] := hl
  refine lv_iload_n cx.1 cx.2.1 dX12_write_0 rfl (lv_at hl 1 rfl) ?_
  refine lv_istore_n (lv' := [(2, .int a1), (0, .ref (ad 137)), (1, .int a1)]) cx.1 cx.2.1 dX12_write_1 rfl hl (by decide) rfl (fun ls hl => ?_)
  have L2 : ∀ (j : Nat) (σ : md_S) (l1 : Int32) (l2 : Int32) (q : (md_S × Int32)) (H : Heap) (locs : List Loc) (ls : Array Slot), f_X12_write_L2 n rec l1 j σ l2 = some q → hp_w D vwCl (hp_Tl cA) E (hp_A (md_pic cA ad σ0) sz) ss H locs (md_pic cA ad σ) → lv_has ls 4 [(0, .ref (ad 137)), (1, .int l1), (2, .int l2)] → (∀ (H : Heap) (locs : List Loc) (ls : Array Slot), hp_w D vwCl (hp_Tl cA) E (hp_A (md_pic cA ad σ0) sz) ss H locs (md_pic cA ad q.1) → lv_has ls 4 [(0, .ref (ad 137)), (1, .int l1), (2, .int q.2)] → W pp l ee ({ frames := (d + 1) + 5, cells := 0, slots := 0, locals := 24 * ((d + 1)) + 109 }) ss mm [.ref (ad 137), .int a1].toArray bb mt cd H locs 0 0 (MQ bb (hp_Qv D vwCl (hp_Tl cA) sz (md_pic cA ad σ0) (fun u => u = md_pic cA ad p.2)) [.ref (ad 137), .int a1].toArray ss 0 0 (hp_A (md_pic cA ad σ0) sz)) (F0 mm 24 ls [])) → W pp l ee ({ frames := (d + 1) + 5, cells := 0, slots := 0, locals := 24 * ((d + 1)) + 109 }) ss mm [.ref (ad 137), .int a1].toArray bb mt cd H locs 0 0 (MQ bb (hp_Qv D vwCl (hp_Tl cA) sz (md_pic cA ad σ0) (fun u => u = md_pic cA ad p.2)) [.ref (ad 137), .int a1].toArray ss 0 0 (hp_A (md_pic cA ad σ0) sz)) (F0 mm 2 ls []) := by
    intro j
    induction j with
    | zero => intro σ l1 l2 q H locs ls h; exact nomatch h
    | succ j ih =>
      intro σ l1 l2 q H locs ls h hw hl K
      refine lv_aload_n cx.1 cx.2.1 dX12_write_2 rfl (lv_at hl 0 rfl) ?_
      refine md_gR (k := 66) cx hw hin12c (by decide) (by decide) (List.mem_cons_of_mem _ mm_128) dX12_write_3 ?_
      refine lv_iload_n cx.1 cx.2.1 dX12_write_6 rfl (lv_at hl 2 rfl) ?_
      obtain ⟨v1, e_v1, h⟩ := md_ob h
      refine md_lI (k := 66) hj cx hw (by decide) rfl rfl rfl e_v1 dX12_write_7 ?_
      obtain ⟨p2, e_p2, h⟩ := md_ob h
      refine hp_callSi (As := [.int v1]) (rest := []) cx hw (km_X12_isSpine l D cA E _ ad hj hE n σ v1 p2 e_p2) (cwS 1 cx.2.2.2.2.2.1 (md_giS mm_452 mm_453 mm_5 mm_454) rfl rfl rfl hd_X12_isSpine ⟨by dsimp only; omega, by dsimp only; omega⟩) rfl hl.1 rfl (Nat.le_of_ble_eq_true rfl) dX12_write_8 ⟨Nat.le_refl _, Nat.le_refl _⟩ (fun r u H locs hp hw => ?_)
      obtain ⟨rfl, rfl⟩ := hp
      refine lv_if_eq (tgt := 24) cx.1 cx.2.1 dX12_write_11 (by decide) (fun c11 => ?_) (fun c11 => ?_)
      · have h := md_ip c11 h
        obtain rfl := Option.some.inj h
        exact K _ _ _ hw (lv_sub hl [0, 1, 2] rfl)
      · have h := md_in c11 h
        refine lv_aload_n cx.1 cx.2.1 dX12_write_14 rfl (lv_at hl 0 rfl) ?_
        refine md_gR (k := 70) cx hw hin12c (by decide) (by decide) (List.mem_cons_of_mem _ mm_133) dX12_write_15 ?_
        refine lv_iload_n cx.1 cx.2.1 dX12_write_18 rfl (lv_at hl 2 rfl) ?_
        obtain ⟨v3, e_v3, h⟩ := md_ob h
        refine md_lI (k := 70) hj cx hw (by decide) rfl rfl rfl e_v3 dX12_write_19 ?_
        refine lv_istore_n (lv' := [(2, .int v3), (0, .ref (ad 137)), (1, .int l1)]) cx.1 cx.2.1 dX12_write_20 rfl hl (by decide) rfl (fun ls hl => ?_)
        refine lv_goto (tgt := 2) cx.1 cx.2.1 dX12_write_21 (by decide) ?_
        exact ih p2.2 l1 v3 q _ _ _ h hw (lv_sub hl [1, 2, 0] rfl) K
  obtain ⟨q4, e_q4, h⟩ := md_ob h
  refine L2 n σ0 a1 a1 q4 _ _ _ e_q4 hw (lv_sub hl [1, 2, 0] rfl) (fun H locs ls hw hl => ?_)
  refine lv_aload_n cx.1 cx.2.1 dX12_write_24 rfl (lv_at hl 0 rfl) ?_
  refine lv_iload_n cx.1 cx.2.1 dX12_write_25 rfl (lv_at hl 2 rfl) ?_
  obtain ⟨p5, e_p5, h⟩ := md_ob h
  refine hp_callVv (As := [.int q4.2]) (rest := []) cx hw (ih1 _ q4.1 (q4.2) p5 e_p5) (cwV 1 cx.2.2.2.2.2.1 (md_giV mm_455 mm_456 mm_457 mm_5 mm_458) rfl rfl rfl hd_X12_writeOne ⟨by dsimp only; omega, by dsimp only; omega⟩) md_at0 rfl rfl hl.1 rfl (Nat.le_of_ble_eq_true rfl) dX12_write_26 ⟨Nat.le_refl _, Nat.le_refl _⟩ (fun u H locs hp hw => ?_)
  obtain rfl := hp
  have L29 : ∀ (j : Nat) (σ : md_S) (l1 : Int32) (l2 : Int32) (q : (md_S × Int32)) (H : Heap) (locs : List Loc) (ls : Array Slot), f_X12_write_L29 n rec l1 j σ l2 = some q → hp_w D vwCl (hp_Tl cA) E (hp_A (md_pic cA ad σ0) sz) ss H locs (md_pic cA ad σ) → lv_has ls 4 [(0, .ref (ad 137)), (1, .int l1), (2, .int l2)] → (∀ (H : Heap) (locs : List Loc) (ls : Array Slot), hp_w D vwCl (hp_Tl cA) E (hp_A (md_pic cA ad σ0) sz) ss H locs (md_pic cA ad q.1) → lv_has ls 4 [] → W pp l ee ({ frames := (d + 1) + 5, cells := 0, slots := 0, locals := 24 * ((d + 1)) + 109 }) ss mm [.ref (ad 137), .int a1].toArray bb mt cd H locs 0 0 (MQ bb (hp_Qv D vwCl (hp_Tl cA) sz (md_pic cA ad σ0) (fun u => u = md_pic cA ad p.2)) [.ref (ad 137), .int a1].toArray ss 0 0 (hp_A (md_pic cA ad σ0) sz)) (F0 mm 81 ls [])) → W pp l ee ({ frames := (d + 1) + 5, cells := 0, slots := 0, locals := 24 * ((d + 1)) + 109 }) ss mm [.ref (ad 137), .int a1].toArray bb mt cd H locs 0 0 (MQ bb (hp_Qv D vwCl (hp_Tl cA) sz (md_pic cA ad σ0) (fun u => u = md_pic cA ad p.2)) [.ref (ad 137), .int a1].toArray ss 0 0 (hp_A (md_pic cA ad σ0) sz)) (F0 mm 29 ls []) := by
    intro j
    induction j with
    | zero => intro σ l1 l2 q H locs ls h; exact nomatch h
    | succ j ih =>
      intro σ l1 l2 q H locs ls h hw hl K
      refine lv_iload_n cx.1 cx.2.1 dX12_write_29 rfl (lv_at hl 2 rfl) ?_
      refine lv_iload_n cx.1 cx.2.1 dX12_write_30 rfl (lv_at hl 1 rfl) ?_
      refine lv_icmp_eq (tgt := 81) cx.1 cx.2.1 dX12_write_31 (by decide) (fun c31 => ?_) (fun c31 => ?_)
      · have h := md_ip c31 h
        obtain rfl := Option.some.inj h
        exact K _ _ _ hw (lv_sub hl [] rfl)
      · have h := md_in c31 h
        refine lv_aload_n cx.1 cx.2.1 dX12_write_34 rfl (lv_at hl 0 rfl) ?_
        refine md_gR (k := 72) cx hw hin12c (by decide) (by decide) (List.mem_cons_of_mem _ mm_135) dX12_write_35 ?_
        refine lv_iload_n cx.1 cx.2.1 dX12_write_38 rfl (lv_at hl 2 rfl) ?_
        obtain ⟨v6, e_v6, h⟩ := md_ob h
        refine md_lI (k := 72) hj cx hw (by decide) rfl rfl rfl e_v6 dX12_write_39 ?_
        refine lv_istore_n (lv' := [(2, .int v6), (0, .ref (ad 137)), (1, .int l1)]) cx.1 cx.2.1 dX12_write_40 rfl hl (by decide) rfl (fun ls hl => ?_)
        refine lv_aload_n cx.1 cx.2.1 dX12_write_41 rfl (lv_at hl 1 rfl) ?_
        refine md_gR (k := 71) cx hw hin12c (by decide) (by decide) (List.mem_cons_of_mem _ mm_134) dX12_write_42 ?_
        refine lv_aload_n cx.1 cx.2.1 dX12_write_45 rfl (lv_at hl 1 rfl) ?_
        refine md_gR (k := 70) cx hw hin12c (by decide) (by decide) (List.mem_cons_of_mem _ mm_133) dX12_write_46 ?_
        refine lv_iload_n cx.1 cx.2.1 dX12_write_49 rfl (lv_at hl 0 rfl) ?_
        obtain ⟨v7, e_v7, h⟩ := md_ob h
        refine md_lI (k := 70) hj cx hw (by decide) rfl rfl rfl e_v7 dX12_write_50 ?_
        obtain ⟨v8, e_v8, h⟩ := md_ob h
        refine md_lI (k := 71) hj cx hw (by decide) rfl rfl rfl e_v8 dX12_write_51 ?_
        refine lv_istore_n (lv' := [(3, .int v8), (2, .int v6), (0, .ref (ad 137)), (1, .int l1)]) cx.1 cx.2.1 dX12_write_52 rfl hl (by decide) rfl (fun ls hl => ?_)
        have L53 : ∀ (j : Nat) (σ : md_S) (l1 : Int32) (l2 : Int32) (l3 : Int32) (q : (md_S × Int32)) (H : Heap) (locs : List Loc) (ls : Array Slot), f_X12_write_L53 n rec l1 l2 j σ l3 = some q → hp_w D vwCl (hp_Tl cA) E (hp_A (md_pic cA ad σ0) sz) ss H locs (md_pic cA ad σ) → lv_has ls 4 [(0, .ref (ad 137)), (1, .int l1), (2, .int l2), (3, .int l3)] → (∀ (H : Heap) (locs : List Loc) (ls : Array Slot), hp_w D vwCl (hp_Tl cA) E (hp_A (md_pic cA ad σ0) sz) ss H locs (md_pic cA ad q.1) → lv_has ls 4 [(0, .ref (ad 137)), (1, .int l1), (2, .int l2)] → W pp l ee ({ frames := (d + 1) + 5, cells := 0, slots := 0, locals := 24 * ((d + 1)) + 109 }) ss mm [.ref (ad 137), .int a1].toArray bb mt cd H locs 0 0 (MQ bb (hp_Qv D vwCl (hp_Tl cA) sz (md_pic cA ad σ0) (fun u => u = md_pic cA ad p.2)) [.ref (ad 137), .int a1].toArray ss 0 0 (hp_A (md_pic cA ad σ0) sz)) (F0 mm 73 ls [])) → W pp l ee ({ frames := (d + 1) + 5, cells := 0, slots := 0, locals := 24 * ((d + 1)) + 109 }) ss mm [.ref (ad 137), .int a1].toArray bb mt cd H locs 0 0 (MQ bb (hp_Qv D vwCl (hp_Tl cA) sz (md_pic cA ad σ0) (fun u => u = md_pic cA ad p.2)) [.ref (ad 137), .int a1].toArray ss 0 0 (hp_A (md_pic cA ad σ0) sz)) (F0 mm 53 ls []) := by
          intro j
          induction j with
          | zero => intro σ l1 l2 l3 q H locs ls h; exact nomatch h
          | succ j ih =>
            intro σ l1 l2 l3 q H locs ls h hw hl K
            refine lv_iload_n cx.1 cx.2.1 dX12_write_53 rfl (lv_at hl 3 rfl) ?_
            refine lv_iconst (v := (-1)) cx.1 cx.2.1 dX12_write_54 (by decide) ?_
            refine lv_icmp_eq (tgt := 73) cx.1 cx.2.1 dX12_write_55 (by decide) (fun c55 => ?_) (fun c55 => ?_)
            · have h := md_ip c55 h
              obtain rfl := Option.some.inj h
              exact K _ _ _ hw (lv_sub hl [0, 1, 2] rfl)
            · have h := md_in c55 h
              refine lv_aload_n cx.1 cx.2.1 dX12_write_58 rfl (lv_at hl 0 rfl) ?_
              refine lv_iload_n cx.1 cx.2.1 dX12_write_59 rfl (lv_at hl 3 rfl) ?_
              obtain ⟨p9, e_p9, h⟩ := md_ob h
              refine hp_callVv (As := [.int l3]) (rest := []) cx hw (ih0 _ σ l3 p9 e_p9) (cwV 1 cx.2.2.2.2.2.1 (md_giV mm_420 mm_421 mm_422 mm_5 mm_423) rfl rfl rfl hd_X12_write ⟨by dsimp only; omega, by dsimp only; omega⟩) md_at0 rfl rfl hl.1 rfl (Nat.le_of_ble_eq_true rfl) dX12_write_60 ⟨Nat.le_refl _, Nat.le_refl _⟩ (fun u H locs hp hw => ?_)
              obtain rfl := hp
              refine lv_aload_n cx.1 cx.2.1 dX12_write_63 rfl (lv_at hl 0 rfl) ?_
              refine md_gR (k := 71) cx hw hin12c (by decide) (by decide) (List.mem_cons_of_mem _ mm_134) dX12_write_64 ?_
              refine lv_iload_n cx.1 cx.2.1 dX12_write_67 rfl (lv_at hl 3 rfl) ?_
              obtain ⟨v10, e_v10, h⟩ := md_ob h
              refine md_lI (k := 71) hj cx hw (by decide) rfl rfl rfl e_v10 dX12_write_68 ?_
              refine lv_istore_n (lv' := [(3, .int v10), (0, .ref (ad 137)), (1, .int l1), (2, .int l2)]) cx.1 cx.2.1 dX12_write_69 rfl hl (by decide) rfl (fun ls hl => ?_)
              refine lv_goto (tgt := 53) cx.1 cx.2.1 dX12_write_70 (by decide) ?_
              exact ih p9.2 l1 l2 v10 q _ _ _ h hw (lv_sub hl [1, 2, 3, 0] rfl) K
        obtain ⟨q11, e_q11, h⟩ := md_ob h
        refine L53 n σ l1 v6 v8 q11 _ _ _ e_q11 hw (lv_sub hl [2, 3, 1, 0] rfl) (fun H locs ls hw hl => ?_)
        refine lv_aload_n cx.1 cx.2.1 dX12_write_73 rfl (lv_at hl 0 rfl) ?_
        refine lv_iload_n cx.1 cx.2.1 dX12_write_74 rfl (lv_at hl 2 rfl) ?_
        obtain ⟨p12, e_p12, h⟩ := md_ob h
        refine hp_callVv (As := [.int v6]) (rest := []) cx hw (km_X12_writeSpine l D cA E _ ad hj hE n q11.1 v6 p12 e_p12) (cwV 1 cx.2.2.2.2.2.1 (md_giV mm_459 mm_460 mm_461 mm_5 mm_462) rfl rfl rfl hd_X12_writeSpine ⟨by dsimp only; omega, by dsimp only; omega⟩) md_at0 rfl rfl hl.1 rfl (Nat.le_of_ble_eq_true rfl) dX12_write_75 ⟨Nat.le_refl _, Nat.le_refl _⟩ (fun u H locs hp hw => ?_)
        obtain rfl := hp
        refine lv_goto (tgt := 29) cx.1 cx.2.1 dX12_write_78 (by decide) ?_
        exact ih p12.2 l1 v6 q _ _ _ h hw (lv_sub hl [0, 1, 2] rfl) K
  obtain ⟨q13, e_q13, h⟩ := md_ob h
  refine L29 n p5.2 a1 (q4.2) q13 _ _ _ e_q13 hw (lv_sub hl [0, 1, 2] rfl) (fun H locs ls hw hl => ?_)
  exact hp_vret cx hw (md_retv h) dX12_write_81
theorem md_Gw_ok (l : Launch) (D : va_G) (cA : Nat → ClassId) (E : hp_N) (ad : Nat → Nat) (hj : md_inj ad) (hE : md_E E) (n : Nat) : ∀ d : Nat, (∀ (sz : Nat) (σ : md_S) (b0 : Int32) (p : Int32 × md_S), md_Gw n d 0 b0 0 0 σ = some p → Met l yX12_write (Cond.code yX12_write cX12_write 4 none :: v_MOD) ({ frames := d + 5, cells := 0, slots := 0, locals := 24 * d + 109 }) (hp_Pc D vwCl (hp_Tl cA) E sz (md_pic cA ad σ) [.ref (ad 137), .int b0]) (hp_Qv D vwCl (hp_Tl cA) sz (md_pic cA ad σ) (fun u => u = md_pic cA ad p.2)) 0 0 (hp_A (md_pic cA ad σ) sz)) ∧ (∀ (sz : Nat) (σ : md_S) (b0 : Int32) (p : Int32 × md_S), md_Gw n d 1 b0 0 0 σ = some p → Met l yX12_writeOne (Cond.code yX12_writeOne cX12_writeOne 4 none :: v_MOD) ({ frames := d + 5, cells := 0, slots := 0, locals := 24 * d + 109 }) (hp_Pc D vwCl (hp_Tl cA) E sz (md_pic cA ad σ) [.ref (ad 137), .int b0]) (hp_Qv D vwCl (hp_Tl cA) sz (md_pic cA ad σ) (fun u => u = md_pic cA ad p.2)) 0 0 (hp_A (md_pic cA ad σ) sz)) ∧ (∀ (sz : Nat) (σ : md_S) (b0 : Int32) (p : Int32 × md_S), md_Gw n d 2 b0 0 0 σ = some p → Met l yX12_writeIf (Cond.code yX12_writeIf cX12_writeIf 4 none :: v_MOD) ({ frames := d + 5, cells := 0, slots := 0, locals := 24 * d + 109 }) (hp_Pc D vwCl (hp_Tl cA) E sz (md_pic cA ad σ) [.ref (ad 137), .int b0]) (hp_Qv D vwCl (hp_Tl cA) sz (md_pic cA ad σ) (fun u => u = md_pic cA ad p.2)) 0 0 (hp_A (md_pic cA ad σ) sz)) ∧ (∀ (sz : Nat) (σ : md_S) (b0 : Int32) (b1 : Int32) (p : Int32 × md_S), md_Gw n d 3 b0 b1 0 σ = some p → Met l yX12_writeTry (Cond.code yX12_writeTry cX12_writeTry 5 none :: v_MOD) ({ frames := d + 5, cells := 0, slots := 0, locals := 24 * d + 109 }) (hp_Pc D vwCl (hp_Tl cA) E sz (md_pic cA ad σ) [.ref (ad 137), .int b0, .int b1]) (hp_Qv D vwCl (hp_Tl cA) sz (md_pic cA ad σ) (fun u => u = md_pic cA ad p.2)) 0 0 (hp_A (md_pic cA ad σ) sz)) := by
  intro d
  induction d with
  | zero => exact ⟨(fun _ _ _ _ h => nomatch h), (fun _ _ _ _ h => nomatch h), (fun _ _ _ _ h => nomatch h), (fun _ _ _ _ _ h => nomatch h)⟩
  | succ d ih =>
    obtain ⟨i0, i1, i2, i3⟩ := ih
    refine ⟨?_, ?_, ?_, ?_⟩
    · intro sz σ a p h
      exact km_X12_write l D cA E sz ad hj hE n d _ i0 i1 σ a p h
    · intro sz σ a p h
      exact km_X12_writeOne l D cA E sz ad hj hE n d _ i0 i2 i3 σ a p h
    · intro sz σ a p h
      exact km_X12_writeIf l D cA E sz ad hj hE n d _ i0 σ a p h
    · intro sz σ a b p h
      exact km_X12_writeTry l D cA E sz ad hj hE n d _ i0 σ a b p h
theorem og_X12_write (l : Launch) (D : va_G) (cA : Nat → ClassId) (E : hp_N) (ad : Nat → Nat) (hj : md_inj ad) (hE : md_E E) (n : Nat) : ∀ (sz : Nat) (σ : md_S) (b0 : Int32) (p : Int32 × md_S), md_Gw n 1800 0 b0 0 0 σ = some p → Met l yX12_write (Cond.code yX12_write cX12_write 4 none :: v_MOD) ({ frames := 1800 + 5, cells := 0, slots := 0, locals := 24 * 1800 + 109 }) (hp_Pc D vwCl (hp_Tl cA) E sz (md_pic cA ad σ) [.ref (ad 137), .int b0]) (hp_Qv D vwCl (hp_Tl cA) sz (md_pic cA ad σ) (fun u => u = md_pic cA ad p.2)) 0 0 (hp_A (md_pic cA ad σ) sz) := (md_Gw_ok l D cA E ad hj hE n 1800).1
