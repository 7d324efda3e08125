theorem m_X11_init_oi : Cond.methodLink RX11 1 objectInit ∈ wsX11_init := by decide +kernel
theorem m_X11_init_oj : Cond.instanceMethod objectInit ∈ wsX11_init := by decide +kernel
theorem m_X11_init_ok : Cond.code objectInit ⟨#[0xb1]⟩ 1 none ∈ wsX11_init := by decide +kernel
theorem m_X11_init_a0 : Cond.arrayClass .byte ∈ wsX11_init := by decide +kernel
theorem m_X11_init_f9 : Cond.fieldLink RX11 9 "WardenHouse" "tape" "[B" ∈ wsX11_init := by decide +kernel
set_option maxRecDepth 20000 in
theorem i_X11_init_X11 : ∀ w ∈ wsX110, w ∈ wsX11_init := by decide +kernel
theorem m_X11_init_k13 : Cond.classLink RX11 13 RX10 ∈ wsX11_init := by decide +kernel
theorem m_X11_init_n10 : Cond.instantiable RX10 11 ∈ wsX11_init := by decide +kernel
theorem m_X11_init_z10 : Cond.initialized RX10 ∈ wsX11_init := by decide +kernel
set_option maxRecDepth 20000 in
theorem i_X11_init_X10 : ∀ w ∈ wsX100, w ∈ wsX11_init := by decide +kernel
theorem m_X11_init_l15 : Cond.methodLink RX11 15 yX10_init ∈ wsX11_init := by decide +kernel
theorem m_X11_init_j15 : Cond.instanceMethod yX10_init ∈ wsX11_init := by decide +kernel
theorem m_X11_init_f16 : Cond.fieldLink RX11 16 "WardenHouse" "words" "LWardenHouse$Words;" ∈ wsX11_init := by decide +kernel
theorem m_X11_init_k20 : Cond.classLink RX11 20 RX3 ∈ wsX11_init := by decide +kernel
theorem m_X11_init_n3 : Cond.instantiable RX3 14 ∈ wsX11_init := by decide +kernel
theorem m_X11_init_z3 : Cond.initialized RX3 ∈ wsX11_init := by decide +kernel
set_option maxRecDepth 20000 in
theorem i_X11_init_X3 : ∀ w ∈ wsX30, w ∈ wsX11_init := by decide +kernel
theorem m_X11_init_l22 : Cond.methodLink RX11 22 yX3_init ∈ wsX11_init := by decide +kernel
theorem m_X11_init_j22 : Cond.instanceMethod yX3_init ∈ wsX11_init := by decide +kernel
theorem m_X11_init_f23 : Cond.fieldLink RX11 23 "WardenHouse" "policy" "LWardenHouse$Policy;" ∈ wsX11_init := by decide +kernel
theorem m_X11_init_k27 : Cond.classLink RX11 27 RX2 ∈ wsX11_init := by decide +kernel
theorem m_X11_init_n2 : Cond.instantiable RX2 16 ∈ wsX11_init := by decide +kernel
theorem m_X11_init_z2 : Cond.initialized RX2 ∈ wsX11_init := by decide +kernel
set_option maxRecDepth 20000 in
theorem i_X11_init_X2 : ∀ w ∈ wsX20, w ∈ wsX11_init := by decide +kernel
theorem m_X11_init_l29 : Cond.methodLink RX11 29 yX2_init ∈ wsX11_init := by decide +kernel
theorem m_X11_init_j29 : Cond.instanceMethod yX2_init ∈ wsX11_init := by decide +kernel
theorem m_X11_init_f32 : Cond.fieldLink RX11 32 "WardenHouse" "plan" "LWardenHouse$Plan;" ∈ wsX11_init := by decide +kernel
theorem m_X11_init_k36 : Cond.classLink RX11 36 RX4 ∈ wsX11_init := by decide +kernel
theorem m_X11_init_n4 : Cond.instantiable RX4 13 ∈ wsX11_init := by decide +kernel
theorem m_X11_init_z4 : Cond.initialized RX4 ∈ wsX11_init := by decide +kernel
set_option maxRecDepth 20000 in
theorem i_X11_init_X4 : ∀ w ∈ wsX40, w ∈ wsX11_init := by decide +kernel
theorem m_X11_init_l38 : Cond.methodLink RX11 38 yX4_init ∈ wsX11_init := by decide +kernel
theorem m_X11_init_j38 : Cond.instanceMethod yX4_init ∈ wsX11_init := by decide +kernel
theorem m_X11_init_f41 : Cond.fieldLink RX11 41 "WardenHouse" "reader" "LWardenHouse$Reader;" ∈ wsX11_init := by decide +kernel
theorem m_X11_init_k45 : Cond.classLink RX11 45 RX8 ∈ wsX11_init := by decide +kernel
theorem m_X11_init_n8 : Cond.instantiable RX8 5 ∈ wsX11_init := by decide +kernel
theorem m_X11_init_z8 : Cond.initialized RX8 ∈ wsX11_init := by decide +kernel
set_option maxRecDepth 20000 in
theorem i_X11_init_X8 : ∀ w ∈ wsX80, w ∈ wsX11_init := by decide +kernel
theorem m_X11_init_l47 : Cond.methodLink RX11 47 yX8_init ∈ wsX11_init := by decide +kernel
theorem m_X11_init_j47 : Cond.instanceMethod yX8_init ∈ wsX11_init := by decide +kernel
theorem m_X11_init_f50 : Cond.fieldLink RX11 50 "WardenHouse" "survey" "LWardenHouse$Survey;" ∈ wsX11_init := by decide +kernel
theorem m_X11_init_k54 : Cond.classLink RX11 54 RX1 ∈ wsX11_init := by decide +kernel
theorem m_X11_init_n1 : Cond.instantiable RX1 20 ∈ wsX11_init := by decide +kernel
theorem m_X11_init_z1 : Cond.initialized RX1 ∈ wsX11_init := by decide +kernel
set_option maxRecDepth 20000 in
theorem i_X11_init_X1 : ∀ w ∈ wsX10, w ∈ wsX11_init := by decide +kernel
theorem m_X11_init_l56 : Cond.methodLink RX11 56 yX1_init ∈ wsX11_init := by decide +kernel
theorem m_X11_init_j56 : Cond.instanceMethod yX1_init ∈ wsX11_init := by decide +kernel
theorem m_X11_init_f59 : Cond.fieldLink RX11 59 "WardenHouse" "machine" "LWardenHouse$Machine;" ∈ wsX11_init := by decide +kernel
theorem m_X11_init_k63 : Cond.classLink RX11 63 RX5 ∈ wsX11_init := by decide +kernel
theorem m_X11_init_n5 : Cond.instantiable RX5 4 ∈ wsX11_init := by decide +kernel
theorem m_X11_init_z5 : Cond.initialized RX5 ∈ wsX11_init := by decide +kernel
set_option maxRecDepth 20000 in
theorem i_X11_init_X5 : ∀ w ∈ wsX50, w ∈ wsX11_init := by decide +kernel
theorem m_X11_init_l65 : Cond.methodLink RX11 65 yX5_init ∈ wsX11_init := by decide +kernel
theorem m_X11_init_j65 : Cond.instanceMethod yX5_init ∈ wsX11_init := by decide +kernel
theorem m_X11_init_f66 : Cond.fieldLink RX11 66 "WardenHouse" "heard" "LWardenHouse$Right;" ∈ wsX11_init := by decide +kernel
theorem m_X11_init_f70 : Cond.fieldLink RX11 70 "WardenHouse" "asked" "LWardenHouse$Right;" ∈ wsX11_init := by decide +kernel
set_option maxHeartbeats 4000000 in
set_option maxRecDepth 100000 in
/-- WardenHouse() -/
theorem k_House_init (l : Launch) (D : va_G) (cA : Nat → ClassId) (E : hp_N) (sz : Nat) (g : hp_M) (hcs : st_cs E) (hfm : st_fm E) (sq sv n : Nat) (b : Nat → Int32) (hst : st_str E sq sv n b) (hn : n < 2 ^ 31) (hkr : ∀ A U H, E A U H → vk_R "WardenHouse$Words" 31 "grant module field let in if then else try catch priv under fun new none self ctx check able out spawn wait fail " sq U) (hkw : ∀ i, i < n → ¬ (kwS b i).1 < 0 ∧ (kwS b i).1 < 23) (hAR : ∀ A U H, E A U H → va_AO "WardenHouse$Right" U) (hAS : ∀ A U H, E A U H → va_AO "WardenHouse$Strand" U) (hAU : ∀ A U H, E A U H → va_AO "WardenHouse$Unit" U) (h : Nat) (hh : g h = some (.inr (11, [.null, .int 0, .null, .null, .null, .null, .null, .null, .null, .null, .int 0, .int 0]))) : Met l yX11_init wsX11_init ({ frames := 6, cells := 998, slots := 16377, locals := 200 }) (hp_Pc D vwCl (hp_Tl cA) E sz g [.ref h]) (hp_Qv D vwCl (hp_Tl cA) sz g (fun u => hp_extX h g u ∧ ∃ a : Nat → Nat, u h = some (.inr (11, [.ref (a 0), .int 0, .ref (a 2), .ref (a 3), .ref (a 4), .ref (a 5), .ref (a 6), .ref (a 7), .ref (a 8), .ref (a 9), .int 0, .int 0])) ∧ u (a 0) = some (.inl (cA 0, 3000, .inl (fun _ => 0))) ∧ ∃ (wa pa pl ra sa ma : Nat → Nat) (m0 : Nat), u (a 2) = some (.inr (10, [.ref (wa 0), .ref (wa 1), .ref (wa 2), .ref (wa 3), .int 0, .int 0, .int 0, .int 0, .int 0, .int 0, .long 0])) ∧ u (wa 1) = some (.inr (6, [.ref (wa 11), .int 0])) ∧ u (wa 11) = some (.inl (cA 2, 192, .inr (.inl (fun _ => 0)))) ∧ u (wa 2) = some (.inr (6, [.ref (wa 12), .int 0])) ∧ wa 1 ≠ wa 2 ∧ u (a 3) = some (.inr (3, [.ref (pa 0), .ref (pa 1), .ref (pa 2), .ref (pa 3), .ref (pa 4), .ref (pa 5), .ref (pa 6), .ref (pa 7), .ref (pa 8), .ref (pa 9), .int 0, .int 0, .int 0, .int 0])) ∧ u (a 4) = some (.inr (2, [.ref (a 3), .ref (pl 1), .int 0, .ref (pl 3), .ref (pl 4), .ref (pl 5), .ref (pl 6), .ref (pl 7), .ref (pl 8), .ref (pl 9), .int 0, .ref (pl 11), .int 0, .ref (pl 13), .int 0, .ref (pl 15)])) ∧ u (a 5) = some (.inr (4, [.ref (a 2), .ref (a 4), .ref (a 3), .ref (ra 3), .ref (ra 4), .ref (ra 5), .int 0, .ref m0, .ref m0, .int 0, .int 0, .int 0, .int (-1)])) ∧ u (a 6) = some (.inr (8, [.ref (a 4), .ref (sa 1), .int 0, .int 0, .int 0])) ∧ u (a 7) = some (.inr (1, [.ref (a 4), .ref (a 3), .ref (ma 2), .ref (ma 3), .ref (ma 4), .ref (ma 5), .ref (ma 6), .ref (ma 7), .int 0, .int 0, .int 0, .int 0, .int 0, .int 0, .int 0, .int 0, .int 0, .int 0, .ref (ma 18), .int 0])))) 998 16377 (hp_A g sz) := by
  refine hp_ofW (cc := cX11_init) (maxL := 1) (ret := none) (by decide) rfl (Nat.le_of_ble_eq_true rfl) ?_
  intro pp ee ss mm bb mt cd ls cx hsz hw hl
  have hl : lv_has ls 1 [(0, .ref h)] := hl
  refine lv_aload_n cx.1 cx.2.1 dX11_init_0 rfl (lv_at hl 0 rfl) ?_
  refine W.objInit cx.1 cx.2.1 cx.2.2.2.2.1 (cx.2.2.2.2.2.1 _ m_X11_init_oi) (cx.2.2.2.2.2.1 _ m_X11_init_oj) (cx.2.2.2.2.2.1 _ m_X11_init_ok) rfl (by rw [cx.2.2.2.1]; exact hl.1) rfl dX11_init_1 (Nat.le_of_ble_eq_true rfl) (Nat.le_of_ble_eq_true rfl) ?_
  refine W.eq (g2 := F0 mm 4 ls []) rfl ?_
  refine lv_aload_n cx.1 cx.2.1 dX11_init_4 rfl (lv_at hl 0 rfl) ?_
  refine lv_sipush (v := 3000) cx.1 cx.2.1 dX11_init_5 (by decide) ?_
  refine hp_newa (atype := .byte) (N' := 3000) (a0 := (3000, .inl (fun _ => 0))) cx hw m_X11_init_a0 0 (ty := .byte) rfl rfl (fun _ => rfl) (by decide) (by decide) (by decide) (by exact Nat.le_of_ble_eq_true rfl) (by exact Nat.le_of_ble_eq_true rfl) dX11_init_8 (fun q1 g2 H nq1 eg2 hw => ?_)
  have f3 : g2 q1 = some (.inl (cA 0, 3000, .inl (fun _ => 0))) := (by rw [eg2]; exact hp_up_self _ _ _)
  have f4 : g2 h = some (.inr (11, [.null, .int 0, .null, .null, .null, .null, .null, .null, .null, .null, .int 0, .int 0])) := (by rw [eg2]; exact (hp_up_ne _ _ (hp_neN hh nq1)).trans hh)
  refine hp_putF (C := RX11) (T := TX11) (N := 12) (ci := 11) (fs' := [.ref q1, .int 0, .null, .null, .null, .null, .null, .null, .null, .null, .int 0, .int 0]) cx hw i_X11_init_X11 tyX11_ok nmX11 rfl f4 0 (by decide) m_X11_init_f9 rfl rfl rfl rfl rfl (Nat.le_of_ble_eq_true rfl) rfl dX11_init_10 (fun g5 H locs eg5 hw => ?_)
  have f6 : g5 h = some (.inr (11, [.ref q1, .int 0, .null, .null, .null, .null, .null, .null, .null, .null, .int 0, .int 0])) := (by rw [eg5]; exact hp_up_self _ _ _)
  refine lv_aload_n cx.1 cx.2.1 dX11_init_13 rfl (lv_at hl 0 rfl) ?_
  refine hp_new (C := RX10) (T := TX10) (N := 11) (ci := 10) (fs := [.null, .null, .null, .null, .int 0, .int 0, .int 0, .int 0, .int 0, .int 0, .long 0]) cx hw i_X11_init_X10 tyX10_ok rfl m_X11_init_k13 m_X11_init_n10 m_X11_init_z10 nwX10 (by exact Nat.le_of_ble_eq_true rfl) (by exact Nat.le_of_ble_eq_true rfl) dX11_init_14 (fun q7 g8 H nq7 eg8 hw => ?_)
  have f9 : g8 q7 = some (.inr (10, [.null, .null, .null, .null, .int 0, .int 0, .int 0, .int 0, .int 0, .int 0, .long 0])) := (by rw [eg8]; exact hp_up_self _ _ _)
  refine lv_dup cx.1 cx.2.1 dX11_init_17 rfl ?_
  refine hp_callIv (As := []) (rest := [.ref q7, .ref h]) cx hw (k_Words_init l D cA E _ g8 hcs hfm sq sv n b hst hn hkr hkw q7 f9) (cwI 0 cx.2.2.2.2.2.1 gX11_init_X10_init rfl rfl rfl (cx.2.2.2.2.2.1 _ m_X11_init_z10) (cx.2.2.2.2.2.1 _ m_X11_init_l15) (cx.2.2.2.2.2.1 _ m_X11_init_j15) rfl (by decide +kernel) ⟨Nat.le_of_ble_eq_true rfl, Nat.le_of_ble_eq_true rfl⟩) rfl hl.1 rfl (Nat.le_of_ble_eq_true rfl) dX11_init_18 ⟨Nat.le_of_ble_eq_true rfl, Nat.le_of_ble_eq_true rfl⟩ (fun u10 H locs hp12 hw => ?_)
  obtain ⟨hx14, a13, f15, ex16⟩ := hp12
  obtain ⟨w0, w1, w11, w2, w12, w3, wne, wn0, wn1, wn2, wn3, wn11, wn12⟩ := ex16
  have f17 : g8 h = some (.inr (11, [.ref q1, .int 0, .null, .null, .null, .null, .null, .null, .null, .null, .int 0, .int 0])) := (by rw [eg8]; exact (hp_up_ne _ _ (hp_neN f6 nq7)).trans f6)
  have f18 : u10 h = some (.inr (11, [.ref q1, .int 0, .null, .null, .null, .null, .null, .null, .null, .null, .int 0, .int 0])) := hx14 _ _ (hp_neK f17 f9 (by decide)) f17
  refine hp_putF (C := RX11) (T := TX11) (N := 12) (ci := 11) (fs' := [.ref q1, .int 0, .ref q7, .null, .null, .null, .null, .null, .null, .null, .int 0, .int 0]) cx hw i_X11_init_X11 tyX11_ok nmX11 rfl f18 2 (by decide) m_X11_init_f16 rfl rfl rfl rfl rfl (Nat.le_of_ble_eq_true rfl) rfl dX11_init_21 (fun g19 H locs eg19 hw => ?_)
  have f20 : g19 h = some (.inr (11, [.ref q1, .int 0, .ref q7, .null, .null, .null, .null, .null, .null, .null, .int 0, .int 0])) := (by rw [eg19]; exact hp_up_self _ _ _)
  refine lv_aload_n cx.1 cx.2.1 dX11_init_24 rfl (lv_at hl 0 rfl) ?_
  refine hp_new (C := RX3) (T := TX3) (N := 14) (ci := 3) (fs := [.null, .null, .null, .null, .null, .null, .null, .null, .null, .null, .int 0, .int 0, .int 0, .int 0]) cx hw i_X11_init_X3 tyX3_ok rfl m_X11_init_k20 m_X11_init_n3 m_X11_init_z3 nwX3 (by exact Nat.le_of_ble_eq_true rfl) (by exact Nat.le_of_ble_eq_true rfl) dX11_init_25 (fun q21 g22 H nq21 eg22 hw => ?_)
  have f23 : g22 q21 = some (.inr (3, [.null, .null, .null, .null, .null, .null, .null, .null, .null, .null, .int 0, .int 0, .int 0, .int 0])) := (by rw [eg22]; exact hp_up_self _ _ _)
  refine lv_dup cx.1 cx.2.1 dX11_init_28 rfl ?_
  refine hp_callIv (As := []) (rest := [.ref q21, .ref h]) cx hw (k_Policy_init l D cA E _ g22 hAR q21 f23) (cwI 0 cx.2.2.2.2.2.1 gX11_init_X3_init rfl rfl rfl (cx.2.2.2.2.2.1 _ m_X11_init_z3) (cx.2.2.2.2.2.1 _ m_X11_init_l22) (cx.2.2.2.2.2.1 _ m_X11_init_j22) rfl (by decide +kernel) ⟨Nat.le_of_ble_eq_true rfl, Nat.le_of_ble_eq_true rfl⟩) rfl hl.1 rfl (Nat.le_of_ble_eq_true rfl) dX11_init_29 ⟨Nat.le_of_ble_eq_true rfl, Nat.le_of_ble_eq_true rfl⟩ (fun u24 H locs hp26 hw => ?_)
  obtain ⟨hx28, a27, f29, ex30⟩ := hp26
  have f31 : g22 h = some (.inr (11, [.ref q1, .int 0, .ref q7, .null, .null, .null, .null, .null, .null, .null, .int 0, .int 0])) := (by rw [eg22]; exact (hp_up_ne _ _ (hp_neN f20 nq21)).trans f20)
  have f32 : u24 h = some (.inr (11, [.ref q1, .int 0, .ref q7, .null, .null, .null, .null, .null, .null, .null, .int 0, .int 0])) := hx28 _ _ (hp_neK f31 f23 (by decide)) f31
  refine hp_putF (C := RX11) (T := TX11) (N := 12) (ci := 11) (fs' := [.ref q1, .int 0, .ref q7, .ref q21, .null, .null, .null, .null, .null, .null, .int 0, .int 0]) cx hw i_X11_init_X11 tyX11_ok nmX11 rfl f32 3 (by decide) m_X11_init_f23 rfl rfl rfl rfl rfl (Nat.le_of_ble_eq_true rfl) rfl dX11_init_32 (fun g33 H locs eg33 hw => ?_)
  have f34 : g33 h = some (.inr (11, [.ref q1, .int 0, .ref q7, .ref q21, .null, .null, .null, .null, .null, .null, .int 0, .int 0])) := (by rw [eg33]; exact hp_up_self _ _ _)
  refine lv_aload_n cx.1 cx.2.1 dX11_init_35 rfl (lv_at hl 0 rfl) ?_
  refine hp_new (C := RX2) (T := TX2) (N := 16) (ci := 2) (fs := [.null, .null, .int 0, .null, .null, .null, .null, .null, .null, .null, .int 0, .null, .int 0, .null, .int 0, .null]) cx hw i_X11_init_X2 tyX2_ok rfl m_X11_init_k27 m_X11_init_n2 m_X11_init_z2 nwX2 (by exact Nat.le_of_ble_eq_true rfl) (by exact Nat.le_of_ble_eq_true rfl) dX11_init_36 (fun q35 g36 H nq35 eg36 hw => ?_)
  have f37 : g36 q35 = some (.inr (2, [.null, .null, .int 0, .null, .null, .null, .null, .null, .null, .null, .int 0, .null, .int 0, .null, .int 0, .null])) := (by rw [eg36]; exact hp_up_self _ _ _)
  refine lv_dup cx.1 cx.2.1 dX11_init_39 rfl ?_
  refine lv_aload_n cx.1 cx.2.1 dX11_init_40 rfl (lv_at hl 0 rfl) ?_
  have f38 : g36 h = some (.inr (11, [.ref q1, .int 0, .ref q7, .ref q21, .null, .null, .null, .null, .null, .null, .int 0, .int 0])) := (by rw [eg36]; exact (hp_up_ne _ _ (hp_neN f34 nq35)).trans f34)
  refine hp_get (C := RX11) (T := TX11) (N := 12) (ci := 11) cx hw i_X11_init_X11 rfl f38 3 (by decide) m_X11_init_f23 (v := .ref q21) rfl dX11_init_41 ?_
  refine hp_callIv (As := [.ref q21]) (rest := [.ref q35, .ref h]) cx hw (k_Plan_init l D cA E _ g36 hAU q21 q35 f37) (cwI 1 cx.2.2.2.2.2.1 gX11_init_X2_init rfl rfl rfl (cx.2.2.2.2.2.1 _ m_X11_init_z2) (cx.2.2.2.2.2.1 _ m_X11_init_l29) (cx.2.2.2.2.2.1 _ m_X11_init_j29) rfl (by decide +kernel) ⟨Nat.le_of_ble_eq_true rfl, Nat.le_of_ble_eq_true rfl⟩) rfl hl.1 rfl (Nat.le_of_ble_eq_true rfl) dX11_init_44 ⟨Nat.le_of_ble_eq_true rfl, Nat.le_of_ble_eq_true rfl⟩ (fun u39 H locs hp41 hw => ?_)
  obtain ⟨hx43, a42, f44, ex45⟩ := hp41
  obtain ⟨prow, pP, pr1, pr2, pr3, pr4⟩ := ex45
  have f46 : u39 h = some (.inr (11, [.ref q1, .int 0, .ref q7, .ref q21, .null, .null, .null, .null, .null, .null, .int 0, .int 0])) := hx43 _ _ (hp_neK f38 f37 (by decide)) f38
  refine hp_putF (C := RX11) (T := TX11) (N := 12) (ci := 11) (fs' := [.ref q1, .int 0, .ref q7, .ref q21, .ref q35, .null, .null, .null, .null, .null, .int 0, .int 0]) cx hw i_X11_init_X11 tyX11_ok nmX11 rfl f46 4 (by decide) m_X11_init_f32 rfl rfl rfl rfl rfl (Nat.le_of_ble_eq_true rfl) rfl dX11_init_47 (fun g47 H locs eg47 hw => ?_)
  have f48 : g47 h = some (.inr (11, [.ref q1, .int 0, .ref q7, .ref q21, .ref q35, .null, .null, .null, .null, .null, .int 0, .int 0])) := (by rw [eg47]; exact hp_up_self _ _ _)
  refine lv_aload_n cx.1 cx.2.1 dX11_init_50 rfl (lv_at hl 0 rfl) ?_
  refine hp_new (C := RX4) (T := TX4) (N := 13) (ci := 4) (fs := [.null, .null, .null, .null, .null, .null, .int 0, .null, .null, .int 0, .int 0, .int 0, .int 0]) cx hw i_X11_init_X4 tyX4_ok rfl m_X11_init_k36 m_X11_init_n4 m_X11_init_z4 nwX4 (by exact Nat.le_of_ble_eq_true rfl) (by exact Nat.le_of_ble_eq_true rfl) dX11_init_51 (fun q49 g50 H nq49 eg50 hw => ?_)
  have f51 : g50 q49 = some (.inr (4, [.null, .null, .null, .null, .null, .null, .int 0, .null, .null, .int 0, .int 0, .int 0, .int 0])) := (by rw [eg50]; exact hp_up_self _ _ _)
  refine lv_dup cx.1 cx.2.1 dX11_init_54 rfl ?_
  refine lv_aload_n cx.1 cx.2.1 dX11_init_55 rfl (lv_at hl 0 rfl) ?_
  have f52 : g50 h = some (.inr (11, [.ref q1, .int 0, .ref q7, .ref q21, .ref q35, .null, .null, .null, .null, .null, .int 0, .int 0])) := (by rw [eg50]; exact (hp_up_ne _ _ (hp_neN f48 nq49)).trans f48)
  refine hp_get (C := RX11) (T := TX11) (N := 12) (ci := 11) cx hw i_X11_init_X11 rfl f52 2 (by decide) m_X11_init_f16 (v := .ref q7) rfl dX11_init_56 ?_
  refine lv_aload_n cx.1 cx.2.1 dX11_init_59 rfl (lv_at hl 0 rfl) ?_
  refine hp_get (C := RX11) (T := TX11) (N := 12) (ci := 11) cx hw i_X11_init_X11 rfl f52 4 (by decide) m_X11_init_f32 (v := .ref q35) rfl dX11_init_60 ?_
  refine lv_aload_n cx.1 cx.2.1 dX11_init_63 rfl (lv_at hl 0 rfl) ?_
  refine hp_get (C := RX11) (T := TX11) (N := 12) (ci := 11) cx hw i_X11_init_X11 rfl f52 3 (by decide) m_X11_init_f23 (v := .ref q21) rfl dX11_init_64 ?_
  have f53 : g47 q35 = some (.inr (2, [.ref q21, .ref (a42 1), .int 0, .ref (a42 3), .ref (a42 4), .ref (a42 5), .ref (a42 6), .ref (a42 7), .ref (a42 8), .ref (a42 9), .int 0, .ref (a42 11), .int 0, .ref (a42 13), .int 0, .ref (a42 15)])) := (by rw [eg47]; exact (hp_up_ne _ _ (hp_neK f44 f46 (by decide))).trans f44)
  have f54 : g50 q35 = some (.inr (2, [.ref q21, .ref (a42 1), .int 0, .ref (a42 3), .ref (a42 4), .ref (a42 5), .ref (a42 6), .ref (a42 7), .ref (a42 8), .ref (a42 9), .int 0, .ref (a42 11), .int 0, .ref (a42 13), .int 0, .ref (a42 15)])) := (by rw [eg50]; exact (hp_up_ne _ _ (hp_neN f53 nq49)).trans f53)
  have f55 : g47 (a42 1) = some (.inl (cA 6, 60, .inr (.inr (.inr (.inr prow))))) := (by rw [eg47]; exact (hp_up_ne _ _ (hp_neAO pr1 f46)).trans pr1)
  have f56 : g50 (a42 1) = some (.inl (cA 6, 60, .inr (.inr (.inr (.inr prow))))) := (by rw [eg50]; exact (hp_up_ne _ _ (hp_neN f55 nq49)).trans f55)
  refine hp_callIv (As := [.ref q7, .ref q35, .ref q21]) (rest := [.ref q49, .ref h]) cx hw (k_Reader_init l D cA E _ g50 q7 q35 q21 a42 f54 prow pP f56 pr2 q49 f51) (cwI 3 cx.2.2.2.2.2.1 gX11_init_X4_init rfl rfl rfl (cx.2.2.2.2.2.1 _ m_X11_init_z4) (cx.2.2.2.2.2.1 _ m_X11_init_l38) (cx.2.2.2.2.2.1 _ m_X11_init_j38) rfl (by decide +kernel) ⟨Nat.le_of_ble_eq_true rfl, Nat.le_of_ble_eq_true rfl⟩) rfl hl.1 rfl (Nat.le_of_ble_eq_true rfl) dX11_init_67 ⟨Nat.le_of_ble_eq_true rfl, Nat.le_of_ble_eq_true rfl⟩ (fun u57 H locs hp59 hw => ?_)
  obtain ⟨hx61, a60, f62, ex63⟩ := hp59
  have f64 : u57 h = some (.inr (11, [.ref q1, .int 0, .ref q7, .ref q21, .ref q35, .null, .null, .null, .null, .null, .int 0, .int 0])) := hx61 _ _ (hp_neK f52 f51 (by decide)) f52
  refine hp_putF (C := RX11) (T := TX11) (N := 12) (ci := 11) (fs' := [.ref q1, .int 0, .ref q7, .ref q21, .ref q35, .ref q49, .null, .null, .null, .null, .int 0, .int 0]) cx hw i_X11_init_X11 tyX11_ok nmX11 rfl f64 5 (by decide) m_X11_init_f41 rfl rfl rfl rfl rfl (Nat.le_of_ble_eq_true rfl) rfl dX11_init_70 (fun g65 H locs eg65 hw => ?_)
  have f66 : g65 h = some (.inr (11, [.ref q1, .int 0, .ref q7, .ref q21, .ref q35, .ref q49, .null, .null, .null, .null, .int 0, .int 0])) := (by rw [eg65]; exact hp_up_self _ _ _)
  refine lv_aload_n cx.1 cx.2.1 dX11_init_73 rfl (lv_at hl 0 rfl) ?_
  refine hp_new (C := RX8) (T := TX8) (N := 5) (ci := 8) (fs := [.null, .null, .int 0, .int 0, .int 0]) cx hw i_X11_init_X8 tyX8_ok rfl m_X11_init_k45 m_X11_init_n8 m_X11_init_z8 nwX8 (by exact Nat.le_of_ble_eq_true rfl) (by exact Nat.le_of_ble_eq_true rfl) dX11_init_74 (fun q67 g68 H nq67 eg68 hw => ?_)
  have f69 : g68 q67 = some (.inr (8, [.null, .null, .int 0, .int 0, .int 0])) := (by rw [eg68]; exact hp_up_self _ _ _)
  refine lv_dup cx.1 cx.2.1 dX11_init_77 rfl ?_
  refine lv_aload_n cx.1 cx.2.1 dX11_init_78 rfl (lv_at hl 0 rfl) ?_
  have f70 : g68 h = some (.inr (11, [.ref q1, .int 0, .ref q7, .ref q21, .ref q35, .ref q49, .null, .null, .null, .null, .int 0, .int 0])) := (by rw [eg68]; exact (hp_up_ne _ _ (hp_neN f66 nq67)).trans f66)
  refine hp_get (C := RX11) (T := TX11) (N := 12) (ci := 11) cx hw i_X11_init_X11 rfl f70 4 (by decide) m_X11_init_f32 (v := .ref q35) rfl dX11_init_79 ?_
  refine hp_callIv (As := [.ref q35]) (rest := [.ref q67, .ref h]) cx hw (k_Survey_init l D cA E _ g68 q35 q67 f69) (cwI 1 cx.2.2.2.2.2.1 gX11_init_X8_init rfl rfl rfl (cx.2.2.2.2.2.1 _ m_X11_init_z8) (cx.2.2.2.2.2.1 _ m_X11_init_l47) (cx.2.2.2.2.2.1 _ m_X11_init_j47) rfl (by decide +kernel) ⟨Nat.le_of_ble_eq_true rfl, Nat.le_of_ble_eq_true rfl⟩) rfl hl.1 rfl (Nat.le_of_ble_eq_true rfl) dX11_init_82 ⟨Nat.le_of_ble_eq_true rfl, Nat.le_of_ble_eq_true rfl⟩ (fun u71 H locs hp73 hw => ?_)
  obtain ⟨hx75, a74, f76⟩ := hp73
  have f78 : u71 h = some (.inr (11, [.ref q1, .int 0, .ref q7, .ref q21, .ref q35, .ref q49, .null, .null, .null, .null, .int 0, .int 0])) := hx75 _ _ (hp_neK f70 f69 (by decide)) f70
  refine hp_putF (C := RX11) (T := TX11) (N := 12) (ci := 11) (fs' := [.ref q1, .int 0, .ref q7, .ref q21, .ref q35, .ref q49, .ref q67, .null, .null, .null, .int 0, .int 0]) cx hw i_X11_init_X11 tyX11_ok nmX11 rfl f78 6 (by decide) m_X11_init_f50 rfl rfl rfl rfl rfl (Nat.le_of_ble_eq_true rfl) rfl dX11_init_85 (fun g79 H locs eg79 hw => ?_)
  have f80 : g79 h = some (.inr (11, [.ref q1, .int 0, .ref q7, .ref q21, .ref q35, .ref q49, .ref q67, .null, .null, .null, .int 0, .int 0])) := (by rw [eg79]; exact hp_up_self _ _ _)
  refine lv_aload_n cx.1 cx.2.1 dX11_init_88 rfl (lv_at hl 0 rfl) ?_
  refine hp_new (C := RX1) (T := TX1) (N := 20) (ci := 1) (fs := [.null, .null, .null, .null, .null, .null, .null, .null, .int 0, .int 0, .int 0, .int 0, .int 0, .int 0, .int 0, .int 0, .int 0, .int 0, .null, .int 0]) cx hw i_X11_init_X1 tyX1_ok rfl m_X11_init_k54 m_X11_init_n1 m_X11_init_z1 nwX1 (by exact Nat.le_of_ble_eq_true rfl) (by exact Nat.le_of_ble_eq_true rfl) dX11_init_89 (fun q81 g82 H nq81 eg82 hw => ?_)
  have f83 : g82 q81 = some (.inr (1, [.null, .null, .null, .null, .null, .null, .null, .null, .int 0, .int 0, .int 0, .int 0, .int 0, .int 0, .int 0, .int 0, .int 0, .int 0, .null, .int 0])) := (by rw [eg82]; exact hp_up_self _ _ _)
  refine lv_dup cx.1 cx.2.1 dX11_init_92 rfl ?_
  refine lv_aload_n cx.1 cx.2.1 dX11_init_93 rfl (lv_at hl 0 rfl) ?_
  have f84 : g82 h = some (.inr (11, [.ref q1, .int 0, .ref q7, .ref q21, .ref q35, .ref q49, .ref q67, .null, .null, .null, .int 0, .int 0])) := (by rw [eg82]; exact (hp_up_ne _ _ (hp_neN f80 nq81)).trans f80)
  refine hp_get (C := RX11) (T := TX11) (N := 12) (ci := 11) cx hw i_X11_init_X11 rfl f84 4 (by decide) m_X11_init_f32 (v := .ref q35) rfl dX11_init_94 ?_
  refine lv_aload_n cx.1 cx.2.1 dX11_init_97 rfl (lv_at hl 0 rfl) ?_
  refine hp_get (C := RX11) (T := TX11) (N := 12) (ci := 11) cx hw i_X11_init_X11 rfl f84 3 (by decide) m_X11_init_f23 (v := .ref q21) rfl dX11_init_98 ?_
  refine hp_callIv (As := [.ref q35, .ref q21]) (rest := [.ref q81, .ref h]) cx hw (k_Machine_init l D cA E _ g82 hAS q35 q21 q81 f83) (cwI 2 cx.2.2.2.2.2.1 gX11_init_X1_init rfl rfl rfl (cx.2.2.2.2.2.1 _ m_X11_init_z1) (cx.2.2.2.2.2.1 _ m_X11_init_l56) (cx.2.2.2.2.2.1 _ m_X11_init_j56) rfl (by decide +kernel) ⟨Nat.le_of_ble_eq_true rfl, Nat.le_of_ble_eq_true rfl⟩) rfl hl.1 rfl (Nat.le_of_ble_eq_true rfl) dX11_init_101 ⟨Nat.le_of_ble_eq_true rfl, Nat.le_of_ble_eq_true rfl⟩ (fun u85 H locs hp87 hw => ?_)
  obtain ⟨hx89, a88, f90, ex91⟩ := hp87
  have f92 : u85 h = some (.inr (11, [.ref q1, .int 0, .ref q7, .ref q21, .ref q35, .ref q49, .ref q67, .null, .null, .null, .int 0, .int 0])) := hx89 _ _ (hp_neK f84 f83 (by decide)) f84
  refine hp_putF (C := RX11) (T := TX11) (N := 12) (ci := 11) (fs' := [.ref q1, .int 0, .ref q7, .ref q21, .ref q35, .ref q49, .ref q67, .ref q81, .null, .null, .int 0, .int 0]) cx hw i_X11_init_X11 tyX11_ok nmX11 rfl f92 7 (by decide) m_X11_init_f59 rfl rfl rfl rfl rfl (Nat.le_of_ble_eq_true rfl) rfl dX11_init_104 (fun g93 H locs eg93 hw => ?_)
  have f94 : g93 h = some (.inr (11, [.ref q1, .int 0, .ref q7, .ref q21, .ref q35, .ref q49, .ref q67, .ref q81, .null, .null, .int 0, .int 0])) := (by rw [eg93]; exact hp_up_self _ _ _)
  refine lv_aload_n cx.1 cx.2.1 dX11_init_107 rfl (lv_at hl 0 rfl) ?_
  refine hp_new (C := RX5) (T := TX5) (N := 4) (ci := 5) (fs := [.long 0, .null, .int 0, .int 0]) cx hw i_X11_init_X5 tyX5_ok rfl m_X11_init_k63 m_X11_init_n5 m_X11_init_z5 nwX5 (by exact Nat.le_of_ble_eq_true rfl) (by exact Nat.le_of_ble_eq_true rfl) dX11_init_108 (fun q95 g96 H nq95 eg96 hw => ?_)
  have f97 : g96 q95 = some (.inr (5, [.long 0, .null, .int 0, .int 0])) := (by rw [eg96]; exact hp_up_self _ _ _)
  refine lv_dup cx.1 cx.2.1 dX11_init_111 rfl ?_
  refine hp_callIv (As := []) (rest := [.ref q95, .ref h]) cx hw (k_Right_init l D cA E _ g96 q95 f97) (cwI 0 cx.2.2.2.2.2.1 gX11_init_X5_init rfl rfl rfl (cx.2.2.2.2.2.1 _ m_X11_init_z5) (cx.2.2.2.2.2.1 _ m_X11_init_l65) (cx.2.2.2.2.2.1 _ m_X11_init_j65) rfl (by decide +kernel) ⟨Nat.le_of_ble_eq_true rfl, Nat.le_of_ble_eq_true rfl⟩) rfl hl.1 rfl (Nat.le_of_ble_eq_true rfl) dX11_init_112 ⟨Nat.le_of_ble_eq_true rfl, Nat.le_of_ble_eq_true rfl⟩ (fun u98 H locs hp100 hw => ?_)
  have hmu98 : pl_made 2 (K_Right cA) q95 g96 u98 := hp100
  obtain ⟨p101, p1010, p101i, p101n, p101j, p101x⟩ := hp100
  have f102 : u98 q95 = some (.inr (5, [.long 0, .ref (p101 1), .int 0, .int 0])) := by rw [← p1010]; exact p101i 0 (by decide)
  have f103 : g96 h = some (.inr (11, [.ref q1, .int 0, .ref q7, .ref q21, .ref q35, .ref q49, .ref q67, .ref q81, .null, .null, .int 0, .int 0])) := (by rw [eg96]; exact (hp_up_ne _ _ (hp_neN f94 nq95)).trans f94)
  have f104 : u98 h = some (.inr (11, [.ref q1, .int 0, .ref q7, .ref q21, .ref q35, .ref q49, .ref q67, .ref q81, .null, .null, .int 0, .int 0])) := p101x _ _ (hp_neK f103 f97 (by decide)) f103
  refine hp_putF (C := RX11) (T := TX11) (N := 12) (ci := 11) (fs' := [.ref q1, .int 0, .ref q7, .ref q21, .ref q35, .ref q49, .ref q67, .ref q81, .ref q95, .null, .int 0, .int 0]) cx hw i_X11_init_X11 tyX11_ok nmX11 rfl f104 8 (by decide) m_X11_init_f66 rfl rfl rfl rfl rfl (Nat.le_of_ble_eq_true rfl) rfl dX11_init_115 (fun g105 H locs eg105 hw => ?_)
  have f106 : g105 h = some (.inr (11, [.ref q1, .int 0, .ref q7, .ref q21, .ref q35, .ref q49, .ref q67, .ref q81, .ref q95, .null, .int 0, .int 0])) := (by rw [eg105]; exact hp_up_self _ _ _)
  refine lv_aload_n cx.1 cx.2.1 dX11_init_118 rfl (lv_at hl 0 rfl) ?_
  refine hp_new (C := RX5) (T := TX5) (N := 4) (ci := 5) (fs := [.long 0, .null, .int 0, .int 0]) cx hw i_X11_init_X5 tyX5_ok rfl m_X11_init_k63 m_X11_init_n5 m_X11_init_z5 nwX5 (by exact Nat.le_of_ble_eq_true rfl) (by exact Nat.le_of_ble_eq_true rfl) dX11_init_119 (fun q107 g108 H nq107 eg108 hw => ?_)
  have f109 : g108 q107 = some (.inr (5, [.long 0, .null, .int 0, .int 0])) := (by rw [eg108]; exact hp_up_self _ _ _)
  refine lv_dup cx.1 cx.2.1 dX11_init_122 rfl ?_
  refine hp_callIv (As := []) (rest := [.ref q107, .ref h]) cx hw (k_Right_init l D cA E _ g108 q107 f109) (cwI 0 cx.2.2.2.2.2.1 gX11_init_X5_init rfl rfl rfl (cx.2.2.2.2.2.1 _ m_X11_init_z5) (cx.2.2.2.2.2.1 _ m_X11_init_l65) (cx.2.2.2.2.2.1 _ m_X11_init_j65) rfl (by decide +kernel) ⟨Nat.le_of_ble_eq_true rfl, Nat.le_of_ble_eq_true rfl⟩) rfl hl.1 rfl (Nat.le_of_ble_eq_true rfl) dX11_init_123 ⟨Nat.le_of_ble_eq_true rfl, Nat.le_of_ble_eq_true rfl⟩ (fun u110 H locs hp112 hw => ?_)
  have hmu110 : pl_made 2 (K_Right cA) q107 g108 u110 := hp112
  obtain ⟨p113, p1130, p113i, p113n, p113j, p113x⟩ := hp112
  have f114 : u110 q107 = some (.inr (5, [.long 0, .ref (p113 1), .int 0, .int 0])) := by rw [← p1130]; exact p113i 0 (by decide)
  have f115 : g108 h = some (.inr (11, [.ref q1, .int 0, .ref q7, .ref q21, .ref q35, .ref q49, .ref q67, .ref q81, .ref q95, .null, .int 0, .int 0])) := (by rw [eg108]; exact (hp_up_ne _ _ (hp_neN f106 nq107)).trans f106)
  have f116 : u110 h = some (.inr (11, [.ref q1, .int 0, .ref q7, .ref q21, .ref q35, .ref q49, .ref q67, .ref q81, .ref q95, .null, .int 0, .int 0])) := p113x _ _ (hp_neK f115 f109 (by decide)) f115
  refine hp_putF (C := RX11) (T := TX11) (N := 12) (ci := 11) (fs' := [.ref q1, .int 0, .ref q7, .ref q21, .ref q35, .ref q49, .ref q67, .ref q81, .ref q95, .ref q107, .int 0, .int 0]) cx hw i_X11_init_X11 tyX11_ok nmX11 rfl f116 9 (by decide) m_X11_init_f70 rfl rfl rfl rfl rfl (Nat.le_of_ble_eq_true rfl) rfl dX11_init_126 (fun g117 H locs eg117 hw => ?_)
  have f118 : g117 h = some (.inr (11, [.ref q1, .int 0, .ref q7, .ref q21, .ref q35, .ref q49, .ref q67, .ref q81, .ref q95, .ref q107, .int 0, .int 0])) := (by rw [eg117]; exact hp_up_self _ _ _)
  have hxt : hp_extX h g g117 := by
    intro b e hb hg
    have b_g2 : g2 b = some e := by rw [eg2]; exact (hp_up_ne _ _ (hp_neN hg nq1)).trans hg
    have b_g5 : g5 b = some e := by rw [eg5]; exact (hp_up_ne _ _ (hb)).trans b_g2
    have b_g8 : g8 b = some e := by rw [eg8]; exact (hp_up_ne _ _ (hp_neN b_g5 nq7)).trans b_g5
    have b_u10 := hx14 b e (hp_neN hg (hp_up_none eg2 (hp_up_none eg5 (nq7)))) b_g8
    have b_g19 : g19 b = some e := by rw [eg19]; exact (hp_up_ne _ _ (hb)).trans b_u10
    have b_g22 : g22 b = some e := by rw [eg22]; exact (hp_up_ne _ _ (hp_neN b_g19 nq21)).trans b_g19
    have b_u24 := hx28 b e (hp_neN hg (hp_up_none eg2 (hp_up_none eg5 (hp_up_none eg8 (hp_extX_none hx14 (f15) (hp_up_none eg19 (nq21))))))) b_g22
    have b_g33 : g33 b = some e := by rw [eg33]; exact (hp_up_ne _ _ (hb)).trans b_u24
    have b_g36 : g36 b = some e := by rw [eg36]; exact (hp_up_ne _ _ (hp_neN b_g33 nq35)).trans b_g33
    have b_u39 := hx43 b e (hp_neN hg (hp_up_none eg2 (hp_up_none eg5 (hp_up_none eg8 (hp_extX_none hx14 (f15) (hp_up_none eg19 (hp_up_none eg22 (hp_extX_none hx28 (f29) (hp_up_none eg33 (nq35)))))))))) b_g36
    have b_g47 : g47 b = some e := by rw [eg47]; exact (hp_up_ne _ _ (hb)).trans b_u39
    have b_g50 : g50 b = some e := by rw [eg50]; exact (hp_up_ne _ _ (hp_neN b_g47 nq49)).trans b_g47
    have b_u57 := hx61 b e (hp_neN hg (hp_up_none eg2 (hp_up_none eg5 (hp_up_none eg8 (hp_extX_none hx14 (f15) (hp_up_none eg19 (hp_up_none eg22 (hp_extX_none hx28 (f29) (hp_up_none eg33 (hp_up_none eg36 (hp_extX_none hx43 (f44) (hp_up_none eg47 (nq49))))))))))))) b_g50
    have b_g65 : g65 b = some e := by rw [eg65]; exact (hp_up_ne _ _ (hb)).trans b_u57
    have b_g68 : g68 b = some e := by rw [eg68]; exact (hp_up_ne _ _ (hp_neN b_g65 nq67)).trans b_g65
    have b_u71 := hx75 b e (hp_neN hg (hp_up_none eg2 (hp_up_none eg5 (hp_up_none eg8 (hp_extX_none hx14 (f15) (hp_up_none eg19 (hp_up_none eg22 (hp_extX_none hx28 (f29) (hp_up_none eg33 (hp_up_none eg36 (hp_extX_none hx43 (f44) (hp_up_none eg47 (hp_up_none eg50 (hp_extX_none hx61 (f62) (hp_up_none eg65 (nq67)))))))))))))))) b_g68
    have b_g79 : g79 b = some e := by rw [eg79]; exact (hp_up_ne _ _ (hb)).trans b_u71
    have b_g82 : g82 b = some e := by rw [eg82]; exact (hp_up_ne _ _ (hp_neN b_g79 nq81)).trans b_g79
    have b_u85 := hx89 b e (hp_neN hg (hp_up_none eg2 (hp_up_none eg5 (hp_up_none eg8 (hp_extX_none hx14 (f15) (hp_up_none eg19 (hp_up_none eg22 (hp_extX_none hx28 (f29) (hp_up_none eg33 (hp_up_none eg36 (hp_extX_none hx43 (f44) (hp_up_none eg47 (hp_up_none eg50 (hp_extX_none hx61 (f62) (hp_up_none eg65 (hp_up_none eg68 (hp_extX_none hx75 (f76) (hp_up_none eg79 (nq81))))))))))))))))))) b_g82
    have b_g93 : g93 b = some e := by rw [eg93]; exact (hp_up_ne _ _ (hb)).trans b_u85
    have b_g96 : g96 b = some e := by rw [eg96]; exact (hp_up_ne _ _ (hp_neN b_g93 nq95)).trans b_g93
    have b_u98 := p101x b e (hp_neN hg (hp_up_none eg2 (hp_up_none eg5 (hp_up_none eg8 (hp_extX_none hx14 (f15) (hp_up_none eg19 (hp_up_none eg22 (hp_extX_none hx28 (f29) (hp_up_none eg33 (hp_up_none eg36 (hp_extX_none hx43 (f44) (hp_up_none eg47 (hp_up_none eg50 (hp_extX_none hx61 (f62) (hp_up_none eg65 (hp_up_none eg68 (hp_extX_none hx75 (f76) (hp_up_none eg79 (hp_up_none eg82 (hp_extX_none hx89 (f90) (hp_up_none eg93 (nq95)))))))))))))))))))))) b_g96
    have b_g105 : g105 b = some e := by rw [eg105]; exact (hp_up_ne _ _ (hb)).trans b_u98
    have b_g108 : g108 b = some e := by rw [eg108]; exact (hp_up_ne _ _ (hp_neN b_g105 nq107)).trans b_g105
    have b_u110 := p113x b e (hp_neN hg (hp_up_none eg2 (hp_up_none eg5 (hp_up_none eg8 (hp_extX_none hx14 (f15) (hp_up_none eg19 (hp_up_none eg22 (hp_extX_none hx28 (f29) (hp_up_none eg33 (hp_up_none eg36 (hp_extX_none hx43 (f44) (hp_up_none eg47 (hp_up_none eg50 (hp_extX_none hx61 (f62) (hp_up_none eg65 (hp_up_none eg68 (hp_extX_none hx75 (f76) (hp_up_none eg79 (hp_up_none eg82 (hp_extX_none hx89 (f90) (hp_up_none eg93 (hp_up_none eg96 (hp_extX_none p101x (f102) (hp_up_none eg105 (nq107))))))))))))))))))))))))) b_g108
    have b_g117 : g117 b = some e := by rw [eg117]; exact (hp_up_ne _ _ (hb)).trans b_u110
    exact b_g117
  have f119 : g5 q1 = some (.inl (cA 0, 3000, .inl (fun _ => 0))) := (by rw [eg5]; exact (hp_up_ne _ _ (hp_neAO f3 f4)).trans f3)
  have f120 : g8 q1 = some (.inl (cA 0, 3000, .inl (fun _ => 0))) := (by rw [eg8]; exact (hp_up_ne _ _ (hp_neN f119 nq7)).trans f119)
  have f121 : u10 q1 = some (.inl (cA 0, 3000, .inl (fun _ => 0))) := hx14 _ _ (hp_neAO f120 f9) f120
  have f122 : g19 q1 = some (.inl (cA 0, 3000, .inl (fun _ => 0))) := (by rw [eg19]; exact (hp_up_ne _ _ (hp_neAO f121 f18)).trans f121)
  have f123 : g22 q1 = some (.inl (cA 0, 3000, .inl (fun _ => 0))) := (by rw [eg22]; exact (hp_up_ne _ _ (hp_neN f122 nq21)).trans f122)
  have f124 : u24 q1 = some (.inl (cA 0, 3000, .inl (fun _ => 0))) := hx28 _ _ (hp_neAO f123 f23) f123
  have f125 : g33 q1 = some (.inl (cA 0, 3000, .inl (fun _ => 0))) := (by rw [eg33]; exact (hp_up_ne _ _ (hp_neAO f124 f32)).trans f124)
  have f126 : g36 q1 = some (.inl (cA 0, 3000, .inl (fun _ => 0))) := (by rw [eg36]; exact (hp_up_ne _ _ (hp_neN f125 nq35)).trans f125)
  have f127 : u39 q1 = some (.inl (cA 0, 3000, .inl (fun _ => 0))) := hx43 _ _ (hp_neAO f126 f37) f126
  have f128 : g47 q1 = some (.inl (cA 0, 3000, .inl (fun _ => 0))) := (by rw [eg47]; exact (hp_up_ne _ _ (hp_neAO f127 f46)).trans f127)
  have f129 : g50 q1 = some (.inl (cA 0, 3000, .inl (fun _ => 0))) := (by rw [eg50]; exact (hp_up_ne _ _ (hp_neN f128 nq49)).trans f128)
  have f130 : u57 q1 = some (.inl (cA 0, 3000, .inl (fun _ => 0))) := hx61 _ _ (hp_neAO f129 f51) f129
  have f131 : g65 q1 = some (.inl (cA 0, 3000, .inl (fun _ => 0))) := (by rw [eg65]; exact (hp_up_ne _ _ (hp_neAO f130 f64)).trans f130)
  have f132 : g68 q1 = some (.inl (cA 0, 3000, .inl (fun _ => 0))) := (by rw [eg68]; exact (hp_up_ne _ _ (hp_neN f131 nq67)).trans f131)
  have f133 : u71 q1 = some (.inl (cA 0, 3000, .inl (fun _ => 0))) := hx75 _ _ (hp_neAO f132 f69) f132
  have f134 : g79 q1 = some (.inl (cA 0, 3000, .inl (fun _ => 0))) := (by rw [eg79]; exact (hp_up_ne _ _ (hp_neAO f133 f78)).trans f133)
  have f135 : g82 q1 = some (.inl (cA 0, 3000, .inl (fun _ => 0))) := (by rw [eg82]; exact (hp_up_ne _ _ (hp_neN f134 nq81)).trans f134)
  have f136 : u85 q1 = some (.inl (cA 0, 3000, .inl (fun _ => 0))) := hx89 _ _ (hp_neAO f135 f83) f135
  have f137 : g93 q1 = some (.inl (cA 0, 3000, .inl (fun _ => 0))) := (by rw [eg93]; exact (hp_up_ne _ _ (hp_neAO f136 f92)).trans f136)
  have f138 : g96 q1 = some (.inl (cA 0, 3000, .inl (fun _ => 0))) := (by rw [eg96]; exact (hp_up_ne _ _ (hp_neN f137 nq95)).trans f137)
  have f139 : u98 q1 = some (.inl (cA 0, 3000, .inl (fun _ => 0))) := p101x _ _ (hp_neAO f138 f97) f138
  have f140 : g105 q1 = some (.inl (cA 0, 3000, .inl (fun _ => 0))) := (by rw [eg105]; exact (hp_up_ne _ _ (hp_neAO f139 f104)).trans f139)
  have f141 : g108 q1 = some (.inl (cA 0, 3000, .inl (fun _ => 0))) := (by rw [eg108]; exact (hp_up_ne _ _ (hp_neN f140 nq107)).trans f140)
  have f142 : u110 q1 = some (.inl (cA 0, 3000, .inl (fun _ => 0))) := p113x _ _ (hp_neAO f141 f109) f141
  have f143 : g117 q1 = some (.inl (cA 0, 3000, .inl (fun _ => 0))) := (by rw [eg117]; exact (hp_up_ne _ _ (hp_neAO f142 f116)).trans f142)
  have f144 : g19 q7 = some (.inr (10, [.ref (a13 0), .ref (a13 1), .ref (a13 2), .ref (a13 3), .int 0, .int 0, .int 0, .int 0, .int 0, .int 0, .long 0])) := (by rw [eg19]; exact (hp_up_ne _ _ (hp_neK f15 f18 (by decide))).trans f15)
  have f145 : g22 q7 = some (.inr (10, [.ref (a13 0), .ref (a13 1), .ref (a13 2), .ref (a13 3), .int 0, .int 0, .int 0, .int 0, .int 0, .int 0, .long 0])) := (by rw [eg22]; exact (hp_up_ne _ _ (hp_neN f144 nq21)).trans f144)
  have f146 : u24 q7 = some (.inr (10, [.ref (a13 0), .ref (a13 1), .ref (a13 2), .ref (a13 3), .int 0, .int 0, .int 0, .int 0, .int 0, .int 0, .long 0])) := hx28 _ _ (hp_neK f145 f23 (by decide)) f145
  have f147 : g33 q7 = some (.inr (10, [.ref (a13 0), .ref (a13 1), .ref (a13 2), .ref (a13 3), .int 0, .int 0, .int 0, .int 0, .int 0, .int 0, .long 0])) := (by rw [eg33]; exact (hp_up_ne _ _ (hp_neK f146 f32 (by decide))).trans f146)
  have f148 : g36 q7 = some (.inr (10, [.ref (a13 0), .ref (a13 1), .ref (a13 2), .ref (a13 3), .int 0, .int 0, .int 0, .int 0, .int 0, .int 0, .long 0])) := (by rw [eg36]; exact (hp_up_ne _ _ (hp_neN f147 nq35)).trans f147)
  have f149 : u39 q7 = some (.inr (10, [.ref (a13 0), .ref (a13 1), .ref (a13 2), .ref (a13 3), .int 0, .int 0, .int 0, .int 0, .int 0, .int 0, .long 0])) := hx43 _ _ (hp_neK f148 f37 (by decide)) f148
  have f150 : g47 q7 = some (.inr (10, [.ref (a13 0), .ref (a13 1), .ref (a13 2), .ref (a13 3), .int 0, .int 0, .int 0, .int 0, .int 0, .int 0, .long 0])) := (by rw [eg47]; exact (hp_up_ne _ _ (hp_neK f149 f46 (by decide))).trans f149)
  have f151 : g50 q7 = some (.inr (10, [.ref (a13 0), .ref (a13 1), .ref (a13 2), .ref (a13 3), .int 0, .int 0, .int 0, .int 0, .int 0, .int 0, .long 0])) := (by rw [eg50]; exact (hp_up_ne _ _ (hp_neN f150 nq49)).trans f150)
  have f152 : u57 q7 = some (.inr (10, [.ref (a13 0), .ref (a13 1), .ref (a13 2), .ref (a13 3), .int 0, .int 0, .int 0, .int 0, .int 0, .int 0, .long 0])) := hx61 _ _ (hp_neK f151 f51 (by decide)) f151
  have f153 : g65 q7 = some (.inr (10, [.ref (a13 0), .ref (a13 1), .ref (a13 2), .ref (a13 3), .int 0, .int 0, .int 0, .int 0, .int 0, .int 0, .long 0])) := (by rw [eg65]; exact (hp_up_ne _ _ (hp_neK f152 f64 (by decide))).trans f152)
  have f154 : g68 q7 = some (.inr (10, [.ref (a13 0), .ref (a13 1), .ref (a13 2), .ref (a13 3), .int 0, .int 0, .int 0, .int 0, .int 0, .int 0, .long 0])) := (by rw [eg68]; exact (hp_up_ne _ _ (hp_neN f153 nq67)).trans f153)
  have f155 : u71 q7 = some (.inr (10, [.ref (a13 0), .ref (a13 1), .ref (a13 2), .ref (a13 3), .int 0, .int 0, .int 0, .int 0, .int 0, .int 0, .long 0])) := hx75 _ _ (hp_neK f154 f69 (by decide)) f154
  have f156 : g79 q7 = some (.inr (10, [.ref (a13 0), .ref (a13 1), .ref (a13 2), .ref (a13 3), .int 0, .int 0, .int 0, .int 0, .int 0, .int 0, .long 0])) := (by rw [eg79]; exact (hp_up_ne _ _ (hp_neK f155 f78 (by decide))).trans f155)
  have f157 : g82 q7 = some (.inr (10, [.ref (a13 0), .ref (a13 1), .ref (a13 2), .ref (a13 3), .int 0, .int 0, .int 0, .int 0, .int 0, .int 0, .long 0])) := (by rw [eg82]; exact (hp_up_ne _ _ (hp_neN f156 nq81)).trans f156)
  have f158 : u85 q7 = some (.inr (10, [.ref (a13 0), .ref (a13 1), .ref (a13 2), .ref (a13 3), .int 0, .int 0, .int 0, .int 0, .int 0, .int 0, .long 0])) := hx89 _ _ (hp_neK f157 f83 (by decide)) f157
  have f159 : g93 q7 = some (.inr (10, [.ref (a13 0), .ref (a13 1), .ref (a13 2), .ref (a13 3), .int 0, .int 0, .int 0, .int 0, .int 0, .int 0, .long 0])) := (by rw [eg93]; exact (hp_up_ne _ _ (hp_neK f158 f92 (by decide))).trans f158)
  have f160 : g96 q7 = some (.inr (10, [.ref (a13 0), .ref (a13 1), .ref (a13 2), .ref (a13 3), .int 0, .int 0, .int 0, .int 0, .int 0, .int 0, .long 0])) := (by rw [eg96]; exact (hp_up_ne _ _ (hp_neN f159 nq95)).trans f159)
  have f161 : u98 q7 = some (.inr (10, [.ref (a13 0), .ref (a13 1), .ref (a13 2), .ref (a13 3), .int 0, .int 0, .int 0, .int 0, .int 0, .int 0, .long 0])) := p101x _ _ (hp_neK f160 f97 (by decide)) f160
  have f162 : g105 q7 = some (.inr (10, [.ref (a13 0), .ref (a13 1), .ref (a13 2), .ref (a13 3), .int 0, .int 0, .int 0, .int 0, .int 0, .int 0, .long 0])) := (by rw [eg105]; exact (hp_up_ne _ _ (hp_neK f161 f104 (by decide))).trans f161)
  have f163 : g108 q7 = some (.inr (10, [.ref (a13 0), .ref (a13 1), .ref (a13 2), .ref (a13 3), .int 0, .int 0, .int 0, .int 0, .int 0, .int 0, .long 0])) := (by rw [eg108]; exact (hp_up_ne _ _ (hp_neN f162 nq107)).trans f162)
  have f164 : u110 q7 = some (.inr (10, [.ref (a13 0), .ref (a13 1), .ref (a13 2), .ref (a13 3), .int 0, .int 0, .int 0, .int 0, .int 0, .int 0, .long 0])) := p113x _ _ (hp_neK f163 f109 (by decide)) f163
  have f165 : g117 q7 = some (.inr (10, [.ref (a13 0), .ref (a13 1), .ref (a13 2), .ref (a13 3), .int 0, .int 0, .int 0, .int 0, .int 0, .int 0, .long 0])) := (by rw [eg117]; exact (hp_up_ne _ _ (hp_neK f164 f116 (by decide))).trans f164)
  have f166 : g33 q21 = some (.inr (3, [.ref (a27 0), .ref (a27 1), .ref (a27 2), .ref (a27 3), .ref (a27 4), .ref (a27 5), .ref (a27 6), .ref (a27 7), .ref (a27 8), .ref (a27 9), .int 0, .int 0, .int 0, .int 0])) := (by rw [eg33]; exact (hp_up_ne _ _ (hp_neK f29 f32 (by decide))).trans f29)
  have f167 : g36 q21 = some (.inr (3, [.ref (a27 0), .ref (a27 1), .ref (a27 2), .ref (a27 3), .ref (a27 4), .ref (a27 5), .ref (a27 6), .ref (a27 7), .ref (a27 8), .ref (a27 9), .int 0, .int 0, .int 0, .int 0])) := (by rw [eg36]; exact (hp_up_ne _ _ (hp_neN f166 nq35)).trans f166)
  have f168 : u39 q21 = some (.inr (3, [.ref (a27 0), .ref (a27 1), .ref (a27 2), .ref (a27 3), .ref (a27 4), .ref (a27 5), .ref (a27 6), .ref (a27 7), .ref (a27 8), .ref (a27 9), .int 0, .int 0, .int 0, .int 0])) := hx43 _ _ (hp_neK f167 f37 (by decide)) f167
  have f169 : g47 q21 = some (.inr (3, [.ref (a27 0), .ref (a27 1), .ref (a27 2), .ref (a27 3), .ref (a27 4), .ref (a27 5), .ref (a27 6), .ref (a27 7), .ref (a27 8), .ref (a27 9), .int 0, .int 0, .int 0, .int 0])) := (by rw [eg47]; exact (hp_up_ne _ _ (hp_neK f168 f46 (by decide))).trans f168)
  have f170 : g50 q21 = some (.inr (3, [.ref (a27 0), .ref (a27 1), .ref (a27 2), .ref (a27 3), .ref (a27 4), .ref (a27 5), .ref (a27 6), .ref (a27 7), .ref (a27 8), .ref (a27 9), .int 0, .int 0, .int 0, .int 0])) := (by rw [eg50]; exact (hp_up_ne _ _ (hp_neN f169 nq49)).trans f169)
  have f171 : u57 q21 = some (.inr (3, [.ref (a27 0), .ref (a27 1), .ref (a27 2), .ref (a27 3), .ref (a27 4), .ref (a27 5), .ref (a27 6), .ref (a27 7), .ref (a27 8), .ref (a27 9), .int 0, .int 0, .int 0, .int 0])) := hx61 _ _ (hp_neK f170 f51 (by decide)) f170
  have f172 : g65 q21 = some (.inr (3, [.ref (a27 0), .ref (a27 1), .ref (a27 2), .ref (a27 3), .ref (a27 4), .ref (a27 5), .ref (a27 6), .ref (a27 7), .ref (a27 8), .ref (a27 9), .int 0, .int 0, .int 0, .int 0])) := (by rw [eg65]; exact (hp_up_ne _ _ (hp_neK f171 f64 (by decide))).trans f171)
  have f173 : g68 q21 = some (.inr (3, [.ref (a27 0), .ref (a27 1), .ref (a27 2), .ref (a27 3), .ref (a27 4), .ref (a27 5), .ref (a27 6), .ref (a27 7), .ref (a27 8), .ref (a27 9), .int 0, .int 0, .int 0, .int 0])) := (by rw [eg68]; exact (hp_up_ne _ _ (hp_neN f172 nq67)).trans f172)
  have f174 : u71 q21 = some (.inr (3, [.ref (a27 0), .ref (a27 1), .ref (a27 2), .ref (a27 3), .ref (a27 4), .ref (a27 5), .ref (a27 6), .ref (a27 7), .ref (a27 8), .ref (a27 9), .int 0, .int 0, .int 0, .int 0])) := hx75 _ _ (hp_neK f173 f69 (by decide)) f173
  have f175 : g79 q21 = some (.inr (3, [.ref (a27 0), .ref (a27 1), .ref (a27 2), .ref (a27 3), .ref (a27 4), .ref (a27 5), .ref (a27 6), .ref (a27 7), .ref (a27 8), .ref (a27 9), .int 0, .int 0, .int 0, .int 0])) := (by rw [eg79]; exact (hp_up_ne _ _ (hp_neK f174 f78 (by decide))).trans f174)
  have f176 : g82 q21 = some (.inr (3, [.ref (a27 0), .ref (a27 1), .ref (a27 2), .ref (a27 3), .ref (a27 4), .ref (a27 5), .ref (a27 6), .ref (a27 7), .ref (a27 8), .ref (a27 9), .int 0, .int 0, .int 0, .int 0])) := (by rw [eg82]; exact (hp_up_ne _ _ (hp_neN f175 nq81)).trans f175)
  have f177 : u85 q21 = some (.inr (3, [.ref (a27 0), .ref (a27 1), .ref (a27 2), .ref (a27 3), .ref (a27 4), .ref (a27 5), .ref (a27 6), .ref (a27 7), .ref (a27 8), .ref (a27 9), .int 0, .int 0, .int 0, .int 0])) := hx89 _ _ (hp_neK f176 f83 (by decide)) f176
  have f178 : g93 q21 = some (.inr (3, [.ref (a27 0), .ref (a27 1), .ref (a27 2), .ref (a27 3), .ref (a27 4), .ref (a27 5), .ref (a27 6), .ref (a27 7), .ref (a27 8), .ref (a27 9), .int 0, .int 0, .int 0, .int 0])) := (by rw [eg93]; exact (hp_up_ne _ _ (hp_neK f177 f92 (by decide))).trans f177)
  have f179 : g96 q21 = some (.inr (3, [.ref (a27 0), .ref (a27 1), .ref (a27 2), .ref (a27 3), .ref (a27 4), .ref (a27 5), .ref (a27 6), .ref (a27 7), .ref (a27 8), .ref (a27 9), .int 0, .int 0, .int 0, .int 0])) := (by rw [eg96]; exact (hp_up_ne _ _ (hp_neN f178 nq95)).trans f178)
  have f180 : u98 q21 = some (.inr (3, [.ref (a27 0), .ref (a27 1), .ref (a27 2), .ref (a27 3), .ref (a27 4), .ref (a27 5), .ref (a27 6), .ref (a27 7), .ref (a27 8), .ref (a27 9), .int 0, .int 0, .int 0, .int 0])) := p101x _ _ (hp_neK f179 f97 (by decide)) f179
  have f181 : g105 q21 = some (.inr (3, [.ref (a27 0), .ref (a27 1), .ref (a27 2), .ref (a27 3), .ref (a27 4), .ref (a27 5), .ref (a27 6), .ref (a27 7), .ref (a27 8), .ref (a27 9), .int 0, .int 0, .int 0, .int 0])) := (by rw [eg105]; exact (hp_up_ne _ _ (hp_neK f180 f104 (by decide))).trans f180)
  have f182 : g108 q21 = some (.inr (3, [.ref (a27 0), .ref (a27 1), .ref (a27 2), .ref (a27 3), .ref (a27 4), .ref (a27 5), .ref (a27 6), .ref (a27 7), .ref (a27 8), .ref (a27 9), .int 0, .int 0, .int 0, .int 0])) := (by rw [eg108]; exact (hp_up_ne _ _ (hp_neN f181 nq107)).trans f181)
  have f183 : u110 q21 = some (.inr (3, [.ref (a27 0), .ref (a27 1), .ref (a27 2), .ref (a27 3), .ref (a27 4), .ref (a27 5), .ref (a27 6), .ref (a27 7), .ref (a27 8), .ref (a27 9), .int 0, .int 0, .int 0, .int 0])) := p113x _ _ (hp_neK f182 f109 (by decide)) f182
  have f184 : g117 q21 = some (.inr (3, [.ref (a27 0), .ref (a27 1), .ref (a27 2), .ref (a27 3), .ref (a27 4), .ref (a27 5), .ref (a27 6), .ref (a27 7), .ref (a27 8), .ref (a27 9), .int 0, .int 0, .int 0, .int 0])) := (by rw [eg117]; exact (hp_up_ne _ _ (hp_neK f183 f116 (by decide))).trans f183)
  have f185 : u57 q35 = some (.inr (2, [.ref q21, .ref (a42 1), .int 0, .ref (a42 3), .ref (a42 4), .ref (a42 5), .ref (a42 6), .ref (a42 7), .ref (a42 8), .ref (a42 9), .int 0, .ref (a42 11), .int 0, .ref (a42 13), .int 0, .ref (a42 15)])) := hx61 _ _ (hp_neK f54 f51 (by decide)) f54
  have f186 : g65 q35 = some (.inr (2, [.ref q21, .ref (a42 1), .int 0, .ref (a42 3), .ref (a42 4), .ref (a42 5), .ref (a42 6), .ref (a42 7), .ref (a42 8), .ref (a42 9), .int 0, .ref (a42 11), .int 0, .ref (a42 13), .int 0, .ref (a42 15)])) := (by rw [eg65]; exact (hp_up_ne _ _ (hp_neK f185 f64 (by decide))).trans f185)
  have f187 : g68 q35 = some (.inr (2, [.ref q21, .ref (a42 1), .int 0, .ref (a42 3), .ref (a42 4), .ref (a42 5), .ref (a42 6), .ref (a42 7), .ref (a42 8), .ref (a42 9), .int 0, .ref (a42 11), .int 0, .ref (a42 13), .int 0, .ref (a42 15)])) := (by rw [eg68]; exact (hp_up_ne _ _ (hp_neN f186 nq67)).trans f186)
  have f188 : u71 q35 = some (.inr (2, [.ref q21, .ref (a42 1), .int 0, .ref (a42 3), .ref (a42 4), .ref (a42 5), .ref (a42 6), .ref (a42 7), .ref (a42 8), .ref (a42 9), .int 0, .ref (a42 11), .int 0, .ref (a42 13), .int 0, .ref (a42 15)])) := hx75 _ _ (hp_neK f187 f69 (by decide)) f187
  have f189 : g79 q35 = some (.inr (2, [.ref q21, .ref (a42 1), .int 0, .ref (a42 3), .ref (a42 4), .ref (a42 5), .ref (a42 6), .ref (a42 7), .ref (a42 8), .ref (a42 9), .int 0, .ref (a42 11), .int 0, .ref (a42 13), .int 0, .ref (a42 15)])) := (by rw [eg79]; exact (hp_up_ne _ _ (hp_neK f188 f78 (by decide))).trans f188)
  have f190 : g82 q35 = some (.inr (2, [.ref q21, .ref (a42 1), .int 0, .ref (a42 3), .ref (a42 4), .ref (a42 5), .ref (a42 6), .ref (a42 7), .ref (a42 8), .ref (a42 9), .int 0, .ref (a42 11), .int 0, .ref (a42 13), .int 0, .ref (a42 15)])) := (by rw [eg82]; exact (hp_up_ne _ _ (hp_neN f189 nq81)).trans f189)
  have f191 : u85 q35 = some (.inr (2, [.ref q21, .ref (a42 1), .int 0, .ref (a42 3), .ref (a42 4), .ref (a42 5), .ref (a42 6), .ref (a42 7), .ref (a42 8), .ref (a42 9), .int 0, .ref (a42 11), .int 0, .ref (a42 13), .int 0, .ref (a42 15)])) := hx89 _ _ (hp_neK f190 f83 (by decide)) f190
  have f192 : g93 q35 = some (.inr (2, [.ref q21, .ref (a42 1), .int 0, .ref (a42 3), .ref (a42 4), .ref (a42 5), .ref (a42 6), .ref (a42 7), .ref (a42 8), .ref (a42 9), .int 0, .ref (a42 11), .int 0, .ref (a42 13), .int 0, .ref (a42 15)])) := (by rw [eg93]; exact (hp_up_ne _ _ (hp_neK f191 f92 (by decide))).trans f191)
  have f193 : g96 q35 = some (.inr (2, [.ref q21, .ref (a42 1), .int 0, .ref (a42 3), .ref (a42 4), .ref (a42 5), .ref (a42 6), .ref (a42 7), .ref (a42 8), .ref (a42 9), .int 0, .ref (a42 11), .int 0, .ref (a42 13), .int 0, .ref (a42 15)])) := (by rw [eg96]; exact (hp_up_ne _ _ (hp_neN f192 nq95)).trans f192)
  have f194 : u98 q35 = some (.inr (2, [.ref q21, .ref (a42 1), .int 0, .ref (a42 3), .ref (a42 4), .ref (a42 5), .ref (a42 6), .ref (a42 7), .ref (a42 8), .ref (a42 9), .int 0, .ref (a42 11), .int 0, .ref (a42 13), .int 0, .ref (a42 15)])) := p101x _ _ (hp_neK f193 f97 (by decide)) f193
  have f195 : g105 q35 = some (.inr (2, [.ref q21, .ref (a42 1), .int 0, .ref (a42 3), .ref (a42 4), .ref (a42 5), .ref (a42 6), .ref (a42 7), .ref (a42 8), .ref (a42 9), .int 0, .ref (a42 11), .int 0, .ref (a42 13), .int 0, .ref (a42 15)])) := (by rw [eg105]; exact (hp_up_ne _ _ (hp_neK f194 f104 (by decide))).trans f194)
  have f196 : g108 q35 = some (.inr (2, [.ref q21, .ref (a42 1), .int 0, .ref (a42 3), .ref (a42 4), .ref (a42 5), .ref (a42 6), .ref (a42 7), .ref (a42 8), .ref (a42 9), .int 0, .ref (a42 11), .int 0, .ref (a42 13), .int 0, .ref (a42 15)])) := (by rw [eg108]; exact (hp_up_ne _ _ (hp_neN f195 nq107)).trans f195)
  have f197 : u110 q35 = some (.inr (2, [.ref q21, .ref (a42 1), .int 0, .ref (a42 3), .ref (a42 4), .ref (a42 5), .ref (a42 6), .ref (a42 7), .ref (a42 8), .ref (a42 9), .int 0, .ref (a42 11), .int 0, .ref (a42 13), .int 0, .ref (a42 15)])) := p113x _ _ (hp_neK f196 f109 (by decide)) f196
  have f198 : g117 q35 = some (.inr (2, [.ref q21, .ref (a42 1), .int 0, .ref (a42 3), .ref (a42 4), .ref (a42 5), .ref (a42 6), .ref (a42 7), .ref (a42 8), .ref (a42 9), .int 0, .ref (a42 11), .int 0, .ref (a42 13), .int 0, .ref (a42 15)])) := (by rw [eg117]; exact (hp_up_ne _ _ (hp_neK f197 f116 (by decide))).trans f197)
  have f199 : g65 q49 = some (.inr (4, [.ref q7, .ref q35, .ref q21, .ref (a60 3), .ref (a60 4), .ref (a60 5), .int 0, .ref (pP (un_ix 0) 0), .ref (pP (un_ix 0) 0), .int 0, .int 0, .int 0, .int (-1)])) := (by rw [eg65]; exact (hp_up_ne _ _ (hp_neK f62 f64 (by decide))).trans f62)
  have f200 : g68 q49 = some (.inr (4, [.ref q7, .ref q35, .ref q21, .ref (a60 3), .ref (a60 4), .ref (a60 5), .int 0, .ref (pP (un_ix 0) 0), .ref (pP (un_ix 0) 0), .int 0, .int 0, .int 0, .int (-1)])) := (by rw [eg68]; exact (hp_up_ne _ _ (hp_neN f199 nq67)).trans f199)
  have f201 : u71 q49 = some (.inr (4, [.ref q7, .ref q35, .ref q21, .ref (a60 3), .ref (a60 4), .ref (a60 5), .int 0, .ref (pP (un_ix 0) 0), .ref (pP (un_ix 0) 0), .int 0, .int 0, .int 0, .int (-1)])) := hx75 _ _ (hp_neK f200 f69 (by decide)) f200
  have f202 : g79 q49 = some (.inr (4, [.ref q7, .ref q35, .ref q21, .ref (a60 3), .ref (a60 4), .ref (a60 5), .int 0, .ref (pP (un_ix 0) 0), .ref (pP (un_ix 0) 0), .int 0, .int 0, .int 0, .int (-1)])) := (by rw [eg79]; exact (hp_up_ne _ _ (hp_neK f201 f78 (by decide))).trans f201)
  have f203 : g82 q49 = some (.inr (4, [.ref q7, .ref q35, .ref q21, .ref (a60 3), .ref (a60 4), .ref (a60 5), .int 0, .ref (pP (un_ix 0) 0), .ref (pP (un_ix 0) 0), .int 0, .int 0, .int 0, .int (-1)])) := (by rw [eg82]; exact (hp_up_ne _ _ (hp_neN f202 nq81)).trans f202)
  have f204 : u85 q49 = some (.inr (4, [.ref q7, .ref q35, .ref q21, .ref (a60 3), .ref (a60 4), .ref (a60 5), .int 0, .ref (pP (un_ix 0) 0), .ref (pP (un_ix 0) 0), .int 0, .int 0, .int 0, .int (-1)])) := hx89 _ _ (hp_neK f203 f83 (by decide)) f203
  have f205 : g93 q49 = some (.inr (4, [.ref q7, .ref q35, .ref q21, .ref (a60 3), .ref (a60 4), .ref (a60 5), .int 0, .ref (pP (un_ix 0) 0), .ref (pP (un_ix 0) 0), .int 0, .int 0, .int 0, .int (-1)])) := (by rw [eg93]; exact (hp_up_ne _ _ (hp_neK f204 f92 (by decide))).trans f204)
  have f206 : g96 q49 = some (.inr (4, [.ref q7, .ref q35, .ref q21, .ref (a60 3), .ref (a60 4), .ref (a60 5), .int 0, .ref (pP (un_ix 0) 0), .ref (pP (un_ix 0) 0), .int 0, .int 0, .int 0, .int (-1)])) := (by rw [eg96]; exact (hp_up_ne _ _ (hp_neN f205 nq95)).trans f205)
  have f207 : u98 q49 = some (.inr (4, [.ref q7, .ref q35, .ref q21, .ref (a60 3), .ref (a60 4), .ref (a60 5), .int 0, .ref (pP (un_ix 0) 0), .ref (pP (un_ix 0) 0), .int 0, .int 0, .int 0, .int (-1)])) := p101x _ _ (hp_neK f206 f97 (by decide)) f206
  have f208 : g105 q49 = some (.inr (4, [.ref q7, .ref q35, .ref q21, .ref (a60 3), .ref (a60 4), .ref (a60 5), .int 0, .ref (pP (un_ix 0) 0), .ref (pP (un_ix 0) 0), .int 0, .int 0, .int 0, .int (-1)])) := (by rw [eg105]; exact (hp_up_ne _ _ (hp_neK f207 f104 (by decide))).trans f207)
  have f209 : g108 q49 = some (.inr (4, [.ref q7, .ref q35, .ref q21, .ref (a60 3), .ref (a60 4), .ref (a60 5), .int 0, .ref (pP (un_ix 0) 0), .ref (pP (un_ix 0) 0), .int 0, .int 0, .int 0, .int (-1)])) := (by rw [eg108]; exact (hp_up_ne _ _ (hp_neN f208 nq107)).trans f208)
  have f210 : u110 q49 = some (.inr (4, [.ref q7, .ref q35, .ref q21, .ref (a60 3), .ref (a60 4), .ref (a60 5), .int 0, .ref (pP (un_ix 0) 0), .ref (pP (un_ix 0) 0), .int 0, .int 0, .int 0, .int (-1)])) := p113x _ _ (hp_neK f209 f109 (by decide)) f209
  have f211 : g117 q49 = some (.inr (4, [.ref q7, .ref q35, .ref q21, .ref (a60 3), .ref (a60 4), .ref (a60 5), .int 0, .ref (pP (un_ix 0) 0), .ref (pP (un_ix 0) 0), .int 0, .int 0, .int 0, .int (-1)])) := (by rw [eg117]; exact (hp_up_ne _ _ (hp_neK f210 f116 (by decide))).trans f210)
  have f212 : g79 q67 = some (.inr (8, [.ref q35, .ref (a74 1), .int 0, .int 0, .int 0])) := (by rw [eg79]; exact (hp_up_ne _ _ (hp_neK f76 f78 (by decide))).trans f76)
  have f213 : g82 q67 = some (.inr (8, [.ref q35, .ref (a74 1), .int 0, .int 0, .int 0])) := (by rw [eg82]; exact (hp_up_ne _ _ (hp_neN f212 nq81)).trans f212)
  have f214 : u85 q67 = some (.inr (8, [.ref q35, .ref (a74 1), .int 0, .int 0, .int 0])) := hx89 _ _ (hp_neK f213 f83 (by decide)) f213
  have f215 : g93 q67 = some (.inr (8, [.ref q35, .ref (a74 1), .int 0, .int 0, .int 0])) := (by rw [eg93]; exact (hp_up_ne _ _ (hp_neK f214 f92 (by decide))).trans f214)
  have f216 : g96 q67 = some (.inr (8, [.ref q35, .ref (a74 1), .int 0, .int 0, .int 0])) := (by rw [eg96]; exact (hp_up_ne _ _ (hp_neN f215 nq95)).trans f215)
  have f217 : u98 q67 = some (.inr (8, [.ref q35, .ref (a74 1), .int 0, .int 0, .int 0])) := p101x _ _ (hp_neK f216 f97 (by decide)) f216
  have f218 : g105 q67 = some (.inr (8, [.ref q35, .ref (a74 1), .int 0, .int 0, .int 0])) := (by rw [eg105]; exact (hp_up_ne _ _ (hp_neK f217 f104 (by decide))).trans f217)
  have f219 : g108 q67 = some (.inr (8, [.ref q35, .ref (a74 1), .int 0, .int 0, .int 0])) := (by rw [eg108]; exact (hp_up_ne _ _ (hp_neN f218 nq107)).trans f218)
  have f220 : u110 q67 = some (.inr (8, [.ref q35, .ref (a74 1), .int 0, .int 0, .int 0])) := p113x _ _ (hp_neK f219 f109 (by decide)) f219
  have f221 : g117 q67 = some (.inr (8, [.ref q35, .ref (a74 1), .int 0, .int 0, .int 0])) := (by rw [eg117]; exact (hp_up_ne _ _ (hp_neK f220 f116 (by decide))).trans f220)
  have f222 : g93 q81 = some (.inr (1, [.ref q35, .ref q21, .ref (a88 2), .ref (a88 3), .ref (a88 4), .ref (a88 5), .ref (a88 6), .ref (a88 7), .int 0, .int 0, .int 0, .int 0, .int 0, .int 0, .int 0, .int 0, .int 0, .int 0, .ref (a88 18), .int 0])) := (by rw [eg93]; exact (hp_up_ne _ _ (hp_neK f90 f92 (by decide))).trans f90)
  have f223 : g96 q81 = some (.inr (1, [.ref q35, .ref q21, .ref (a88 2), .ref (a88 3), .ref (a88 4), .ref (a88 5), .ref (a88 6), .ref (a88 7), .int 0, .int 0, .int 0, .int 0, .int 0, .int 0, .int 0, .int 0, .int 0, .int 0, .ref (a88 18), .int 0])) := (by rw [eg96]; exact (hp_up_ne _ _ (hp_neN f222 nq95)).trans f222)
  have f224 : u98 q81 = some (.inr (1, [.ref q35, .ref q21, .ref (a88 2), .ref (a88 3), .ref (a88 4), .ref (a88 5), .ref (a88 6), .ref (a88 7), .int 0, .int 0, .int 0, .int 0, .int 0, .int 0, .int 0, .int 0, .int 0, .int 0, .ref (a88 18), .int 0])) := p101x _ _ (hp_neK f223 f97 (by decide)) f223
  have f225 : g105 q81 = some (.inr (1, [.ref q35, .ref q21, .ref (a88 2), .ref (a88 3), .ref (a88 4), .ref (a88 5), .ref (a88 6), .ref (a88 7), .int 0, .int 0, .int 0, .int 0, .int 0, .int 0, .int 0, .int 0, .int 0, .int 0, .ref (a88 18), .int 0])) := (by rw [eg105]; exact (hp_up_ne _ _ (hp_neK f224 f104 (by decide))).trans f224)
  have f226 : g108 q81 = some (.inr (1, [.ref q35, .ref q21, .ref (a88 2), .ref (a88 3), .ref (a88 4), .ref (a88 5), .ref (a88 6), .ref (a88 7), .int 0, .int 0, .int 0, .int 0, .int 0, .int 0, .int 0, .int 0, .int 0, .int 0, .ref (a88 18), .int 0])) := (by rw [eg108]; exact (hp_up_ne _ _ (hp_neN f225 nq107)).trans f225)
  have f227 : u110 q81 = some (.inr (1, [.ref q35, .ref q21, .ref (a88 2), .ref (a88 3), .ref (a88 4), .ref (a88 5), .ref (a88 6), .ref (a88 7), .int 0, .int 0, .int 0, .int 0, .int 0, .int 0, .int 0, .int 0, .int 0, .int 0, .ref (a88 18), .int 0])) := p113x _ _ (hp_neK f226 f109 (by decide)) f226
  have f228 : g117 q81 = some (.inr (1, [.ref q35, .ref q21, .ref (a88 2), .ref (a88 3), .ref (a88 4), .ref (a88 5), .ref (a88 6), .ref (a88 7), .int 0, .int 0, .int 0, .int 0, .int 0, .int 0, .int 0, .int 0, .int 0, .int 0, .ref (a88 18), .int 0])) := (by rw [eg117]; exact (hp_up_ne _ _ (hp_neK f227 f116 (by decide))).trans f227)
  have f229 : g19 (a13 1) = some (.inr (6, [.ref (a13 11), .int 0])) := (by rw [eg19]; exact (hp_up_ne _ _ (hp_neK w1 f18 (by decide))).trans w1)
  have f230 : g22 (a13 1) = some (.inr (6, [.ref (a13 11), .int 0])) := (by rw [eg22]; exact (hp_up_ne _ _ (hp_neN f229 nq21)).trans f229)
  have f231 : u24 (a13 1) = some (.inr (6, [.ref (a13 11), .int 0])) := hx28 _ _ (hp_neK f230 f23 (by decide)) f230
  have f232 : g33 (a13 1) = some (.inr (6, [.ref (a13 11), .int 0])) := (by rw [eg33]; exact (hp_up_ne _ _ (hp_neK f231 f32 (by decide))).trans f231)
  have f233 : g36 (a13 1) = some (.inr (6, [.ref (a13 11), .int 0])) := (by rw [eg36]; exact (hp_up_ne _ _ (hp_neN f232 nq35)).trans f232)
  have f234 : u39 (a13 1) = some (.inr (6, [.ref (a13 11), .int 0])) := hx43 _ _ (hp_neK f233 f37 (by decide)) f233
  have f235 : g47 (a13 1) = some (.inr (6, [.ref (a13 11), .int 0])) := (by rw [eg47]; exact (hp_up_ne _ _ (hp_neK f234 f46 (by decide))).trans f234)
  have f236 : g50 (a13 1) = some (.inr (6, [.ref (a13 11), .int 0])) := (by rw [eg50]; exact (hp_up_ne _ _ (hp_neN f235 nq49)).trans f235)
  have f237 : u57 (a13 1) = some (.inr (6, [.ref (a13 11), .int 0])) := hx61 _ _ (hp_neK f236 f51 (by decide)) f236
  have f238 : g65 (a13 1) = some (.inr (6, [.ref (a13 11), .int 0])) := (by rw [eg65]; exact (hp_up_ne _ _ (hp_neK f237 f64 (by decide))).trans f237)
  have f239 : g68 (a13 1) = some (.inr (6, [.ref (a13 11), .int 0])) := (by rw [eg68]; exact (hp_up_ne _ _ (hp_neN f238 nq67)).trans f238)
  have f240 : u71 (a13 1) = some (.inr (6, [.ref (a13 11), .int 0])) := hx75 _ _ (hp_neK f239 f69 (by decide)) f239
  have f241 : g79 (a13 1) = some (.inr (6, [.ref (a13 11), .int 0])) := (by rw [eg79]; exact (hp_up_ne _ _ (hp_neK f240 f78 (by decide))).trans f240)
  have f242 : g82 (a13 1) = some (.inr (6, [.ref (a13 11), .int 0])) := (by rw [eg82]; exact (hp_up_ne _ _ (hp_neN f241 nq81)).trans f241)
  have f243 : u85 (a13 1) = some (.inr (6, [.ref (a13 11), .int 0])) := hx89 _ _ (hp_neK f242 f83 (by decide)) f242
  have f244 : g93 (a13 1) = some (.inr (6, [.ref (a13 11), .int 0])) := (by rw [eg93]; exact (hp_up_ne _ _ (hp_neK f243 f92 (by decide))).trans f243)
  have f245 : g96 (a13 1) = some (.inr (6, [.ref (a13 11), .int 0])) := (by rw [eg96]; exact (hp_up_ne _ _ (hp_neN f244 nq95)).trans f244)
  have f246 : u98 (a13 1) = some (.inr (6, [.ref (a13 11), .int 0])) := p101x _ _ (hp_neK f245 f97 (by decide)) f245
  have f247 : g105 (a13 1) = some (.inr (6, [.ref (a13 11), .int 0])) := (by rw [eg105]; exact (hp_up_ne _ _ (hp_neK f246 f104 (by decide))).trans f246)
  have f248 : g108 (a13 1) = some (.inr (6, [.ref (a13 11), .int 0])) := (by rw [eg108]; exact (hp_up_ne _ _ (hp_neN f247 nq107)).trans f247)
  have f249 : u110 (a13 1) = some (.inr (6, [.ref (a13 11), .int 0])) := p113x _ _ (hp_neK f248 f109 (by decide)) f248
  have f250 : g117 (a13 1) = some (.inr (6, [.ref (a13 11), .int 0])) := (by rw [eg117]; exact (hp_up_ne _ _ (hp_neK f249 f116 (by decide))).trans f249)
  have f251 : g19 (a13 11) = some (.inl (cA 2, 192, .inr (.inl (fun _ => 0)))) := (by rw [eg19]; exact (hp_up_ne _ _ (hp_neAO w11 f18)).trans w11)
  have f252 : g22 (a13 11) = some (.inl (cA 2, 192, .inr (.inl (fun _ => 0)))) := (by rw [eg22]; exact (hp_up_ne _ _ (hp_neN f251 nq21)).trans f251)
  have f253 : u24 (a13 11) = some (.inl (cA 2, 192, .inr (.inl (fun _ => 0)))) := hx28 _ _ (hp_neAO f252 f23) f252
  have f254 : g33 (a13 11) = some (.inl (cA 2, 192, .inr (.inl (fun _ => 0)))) := (by rw [eg33]; exact (hp_up_ne _ _ (hp_neAO f253 f32)).trans f253)
  have f255 : g36 (a13 11) = some (.inl (cA 2, 192, .inr (.inl (fun _ => 0)))) := (by rw [eg36]; exact (hp_up_ne _ _ (hp_neN f254 nq35)).trans f254)
  have f256 : u39 (a13 11) = some (.inl (cA 2, 192, .inr (.inl (fun _ => 0)))) := hx43 _ _ (hp_neAO f255 f37) f255
  have f257 : g47 (a13 11) = some (.inl (cA 2, 192, .inr (.inl (fun _ => 0)))) := (by rw [eg47]; exact (hp_up_ne _ _ (hp_neAO f256 f46)).trans f256)
  have f258 : g50 (a13 11) = some (.inl (cA 2, 192, .inr (.inl (fun _ => 0)))) := (by rw [eg50]; exact (hp_up_ne _ _ (hp_neN f257 nq49)).trans f257)
  have f259 : u57 (a13 11) = some (.inl (cA 2, 192, .inr (.inl (fun _ => 0)))) := hx61 _ _ (hp_neAO f258 f51) f258
  have f260 : g65 (a13 11) = some (.inl (cA 2, 192, .inr (.inl (fun _ => 0)))) := (by rw [eg65]; exact (hp_up_ne _ _ (hp_neAO f259 f64)).trans f259)
  have f261 : g68 (a13 11) = some (.inl (cA 2, 192, .inr (.inl (fun _ => 0)))) := (by rw [eg68]; exact (hp_up_ne _ _ (hp_neN f260 nq67)).trans f260)
  have f262 : u71 (a13 11) = some (.inl (cA 2, 192, .inr (.inl (fun _ => 0)))) := hx75 _ _ (hp_neAO f261 f69) f261
  have f263 : g79 (a13 11) = some (.inl (cA 2, 192, .inr (.inl (fun _ => 0)))) := (by rw [eg79]; exact (hp_up_ne _ _ (hp_neAO f262 f78)).trans f262)
  have f264 : g82 (a13 11) = some (.inl (cA 2, 192, .inr (.inl (fun _ => 0)))) := (by rw [eg82]; exact (hp_up_ne _ _ (hp_neN f263 nq81)).trans f263)
  have f265 : u85 (a13 11) = some (.inl (cA 2, 192, .inr (.inl (fun _ => 0)))) := hx89 _ _ (hp_neAO f264 f83) f264
  have f266 : g93 (a13 11) = some (.inl (cA 2, 192, .inr (.inl (fun _ => 0)))) := (by rw [eg93]; exact (hp_up_ne _ _ (hp_neAO f265 f92)).trans f265)
  have f267 : g96 (a13 11) = some (.inl (cA 2, 192, .inr (.inl (fun _ => 0)))) := (by rw [eg96]; exact (hp_up_ne _ _ (hp_neN f266 nq95)).trans f266)
  have f268 : u98 (a13 11) = some (.inl (cA 2, 192, .inr (.inl (fun _ => 0)))) := p101x _ _ (hp_neAO f267 f97) f267
  have f269 : g105 (a13 11) = some (.inl (cA 2, 192, .inr (.inl (fun _ => 0)))) := (by rw [eg105]; exact (hp_up_ne _ _ (hp_neAO f268 f104)).trans f268)
  have f270 : g108 (a13 11) = some (.inl (cA 2, 192, .inr (.inl (fun _ => 0)))) := (by rw [eg108]; exact (hp_up_ne _ _ (hp_neN f269 nq107)).trans f269)
  have f271 : u110 (a13 11) = some (.inl (cA 2, 192, .inr (.inl (fun _ => 0)))) := p113x _ _ (hp_neAO f270 f109) f270
  have f272 : g117 (a13 11) = some (.inl (cA 2, 192, .inr (.inl (fun _ => 0)))) := (by rw [eg117]; exact (hp_up_ne _ _ (hp_neAO f271 f116)).trans f271)
  have f273 : g19 (a13 2) = some (.inr (6, [.ref (a13 12), .int 0])) := (by rw [eg19]; exact (hp_up_ne _ _ (hp_neK w2 f18 (by decide))).trans w2)
  have f274 : g22 (a13 2) = some (.inr (6, [.ref (a13 12), .int 0])) := (by rw [eg22]; exact (hp_up_ne _ _ (hp_neN f273 nq21)).trans f273)
  have f275 : u24 (a13 2) = some (.inr (6, [.ref (a13 12), .int 0])) := hx28 _ _ (hp_neK f274 f23 (by decide)) f274
  have f276 : g33 (a13 2) = some (.inr (6, [.ref (a13 12), .int 0])) := (by rw [eg33]; exact (hp_up_ne _ _ (hp_neK f275 f32 (by decide))).trans f275)
  have f277 : g36 (a13 2) = some (.inr (6, [.ref (a13 12), .int 0])) := (by rw [eg36]; exact (hp_up_ne _ _ (hp_neN f276 nq35)).trans f276)
  have f278 : u39 (a13 2) = some (.inr (6, [.ref (a13 12), .int 0])) := hx43 _ _ (hp_neK f277 f37 (by decide)) f277
  have f279 : g47 (a13 2) = some (.inr (6, [.ref (a13 12), .int 0])) := (by rw [eg47]; exact (hp_up_ne _ _ (hp_neK f278 f46 (by decide))).trans f278)
  have f280 : g50 (a13 2) = some (.inr (6, [.ref (a13 12), .int 0])) := (by rw [eg50]; exact (hp_up_ne _ _ (hp_neN f279 nq49)).trans f279)
  have f281 : u57 (a13 2) = some (.inr (6, [.ref (a13 12), .int 0])) := hx61 _ _ (hp_neK f280 f51 (by decide)) f280
  have f282 : g65 (a13 2) = some (.inr (6, [.ref (a13 12), .int 0])) := (by rw [eg65]; exact (hp_up_ne _ _ (hp_neK f281 f64 (by decide))).trans f281)
  have f283 : g68 (a13 2) = some (.inr (6, [.ref (a13 12), .int 0])) := (by rw [eg68]; exact (hp_up_ne _ _ (hp_neN f282 nq67)).trans f282)
  have f284 : u71 (a13 2) = some (.inr (6, [.ref (a13 12), .int 0])) := hx75 _ _ (hp_neK f283 f69 (by decide)) f283
  have f285 : g79 (a13 2) = some (.inr (6, [.ref (a13 12), .int 0])) := (by rw [eg79]; exact (hp_up_ne _ _ (hp_neK f284 f78 (by decide))).trans f284)
  have f286 : g82 (a13 2) = some (.inr (6, [.ref (a13 12), .int 0])) := (by rw [eg82]; exact (hp_up_ne _ _ (hp_neN f285 nq81)).trans f285)
  have f287 : u85 (a13 2) = some (.inr (6, [.ref (a13 12), .int 0])) := hx89 _ _ (hp_neK f286 f83 (by decide)) f286
  have f288 : g93 (a13 2) = some (.inr (6, [.ref (a13 12), .int 0])) := (by rw [eg93]; exact (hp_up_ne _ _ (hp_neK f287 f92 (by decide))).trans f287)
  have f289 : g96 (a13 2) = some (.inr (6, [.ref (a13 12), .int 0])) := (by rw [eg96]; exact (hp_up_ne _ _ (hp_neN f288 nq95)).trans f288)
  have f290 : u98 (a13 2) = some (.inr (6, [.ref (a13 12), .int 0])) := p101x _ _ (hp_neK f289 f97 (by decide)) f289
  have f291 : g105 (a13 2) = some (.inr (6, [.ref (a13 12), .int 0])) := (by rw [eg105]; exact (hp_up_ne _ _ (hp_neK f290 f104 (by decide))).trans f290)
  have f292 : g108 (a13 2) = some (.inr (6, [.ref (a13 12), .int 0])) := (by rw [eg108]; exact (hp_up_ne _ _ (hp_neN f291 nq107)).trans f291)
  have f293 : u110 (a13 2) = some (.inr (6, [.ref (a13 12), .int 0])) := p113x _ _ (hp_neK f292 f109 (by decide)) f292
  have f294 : g117 (a13 2) = some (.inr (6, [.ref (a13 12), .int 0])) := (by rw [eg117]; exact (hp_up_ne _ _ (hp_neK f293 f116 (by decide))).trans f293)
  exact hp_vret cx hw (⟨hxt, (fun k => match k with | 0 => q1 | 2 => q7 | 3 => q21 | 4 => q35 | 5 => q49 | 6 => q67 | 7 => q81 | 8 => q95 | 9 => q107 | _ => 0), f118, f143, a13, a27, a42, a60, a74, a88, _, f165, f250, f272, f294, wne, f184, f198, f211, f221, f228⟩) dX11_init_129
