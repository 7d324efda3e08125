set_option maxHeartbeats 4000000 in
set_option maxRecDepth 100000 in
/-- codeWith(code, c) -/
theorem k_codeWith (l : Launch) (D : va_G) (cA : Nat → ClassId) (E : hp_N) (sz : Nat) (g : hp_M) (x : Int64) (c : Int32) : Met l yX10_codeWith wsX10_codeWith ({ frames := 0, cells := 0, slots := 0, locals := 0 }) (hp_Pc D vwCl (hp_Tl cA) E sz g [.long x, .int c]) (hp_Ql D vwCl (hp_Tl cA) sz g (fun r u => u = g ∧ r = cw_ x c)) 0 0 (hp_A g sz) := by
  refine hp_ofW (cc := cX10_codeWith) (maxL := 3) (ret := (some .long)) (by decide) rfl (Nat.le_of_ble_eq_true rfl) ?_
  intro pp ee ss mm bb mt cd ls cx hsz hw hl
  have hl : lv_has ls 3 [(0, .long x), (2, .int c)] := hl
  refine lv_lload_n cx.1 cx.2.1 dX10_codeWith_0 rfl (lv_at hl 0 rfl) ?_
  refine lv_bipush (v := 6) cx.1 cx.2.1 dX10_codeWith_1 (by decide) ?_
  refine lv_lshl (v := (x <<< ((6 : Int32).toInt64 &&& 63))) cx.1 cx.2.1 dX10_codeWith_3 rfl ?_
  refine lv_iload_n cx.1 cx.2.1 dX10_codeWith_4 rfl (lv_at hl 1 rfl) ?_
  refine lv_bipush (v := 97) cx.1 cx.2.1 dX10_codeWith_5 (by decide) ?_
  refine lv_icmp_lt (tgt := 19) cx.1 cx.2.1 dX10_codeWith_7 (by decide) (fun c7_1 => ?_) (fun c7_1 => ?_)
  · skip
    refine lv_iload_n cx.1 cx.2.1 dX10_codeWith_19 rfl (lv_at hl 1 rfl) ?_
    refine lv_bipush (v := 48) cx.1 cx.2.1 dX10_codeWith_20 (by decide) ?_
    refine lv_isub cx.1 cx.2.1 dX10_codeWith_22 ?_
    refine lv_bipush (v := 27) cx.1 cx.2.1 dX10_codeWith_23 (by decide) ?_
    refine lv_iadd cx.1 cx.2.1 dX10_codeWith_25 ?_
    refine lv_i2l (v := (((c - 48) + 27).toInt64)) cx.1 cx.2.1 dX10_codeWith_26 rfl ?_
    refine lv_lor cx.1 cx.2.1 dX10_codeWith_27 ?_
    exact hp_lret cx hw (⟨rfl, by unfold cw_; rw [if_pos c7_1]⟩) dX10_codeWith_28
  · skip
    refine lv_iload_n cx.1 cx.2.1 dX10_codeWith_10 rfl (lv_at hl 1 rfl) ?_
    refine lv_bipush (v := 97) cx.1 cx.2.1 dX10_codeWith_11 (by decide) ?_
    refine lv_isub cx.1 cx.2.1 dX10_codeWith_13 ?_
    refine lv_iconst (v := 1) cx.1 cx.2.1 dX10_codeWith_14 (by decide) ?_
    refine lv_iadd cx.1 cx.2.1 dX10_codeWith_15 ?_
    refine lv_goto (tgt := 26) cx.1 cx.2.1 dX10_codeWith_16 (by decide) ?_
    refine lv_i2l (v := (((c - 97) + 1).toInt64)) cx.1 cx.2.1 dX10_codeWith_26 rfl ?_
    refine lv_lor cx.1 cx.2.1 dX10_codeWith_27 ?_
    exact hp_lret cx hw (⟨rfl, by unfold cw_; rw [if_neg c7_1]⟩) dX10_codeWith_28

theorem m_X10_init_oi : Cond.methodLink RX10 3 objectInit ∈ wsX10_init := by decide +kernel
theorem m_X10_init_oj : Cond.instanceMethod objectInit ∈ wsX10_init := by decide +kernel
theorem m_X10_init_ok : Cond.code objectInit ⟨#[0xb1]⟩ 1 none ∈ wsX10_init := by decide +kernel
theorem m_X10_init_a2 : Cond.arrayClass .long ∈ wsX10_init := by decide +kernel
theorem m_X10_init_f11 : Cond.fieldLink RX10 11 "WardenHouse$Words" "keywords" "[J" ∈ wsX10_init := by decide +kernel
set_option maxRecDepth 20000 in
theorem i_X10_init_X10 : ∀ w ∈ wsX100, w ∈ wsX10_init := by decide +kernel
theorem m_X10_init_k15 : Cond.classLink RX10 15 RX6 ∈ wsX10_init := by decide +kernel
theorem m_X10_init_n6 : Cond.instantiable RX6 2 ∈ wsX10_init := by decide +kernel
theorem m_X10_init_z6 : Cond.initialized RX6 ∈ wsX10_init := by decide +kernel
set_option maxRecDepth 20000 in
theorem i_X10_init_X6 : ∀ w ∈ wsX60, w ∈ wsX10_init := by decide +kernel
theorem m_X10_init_l17 : Cond.methodLink RX10 17 yX6_init ∈ wsX10_init := by decide +kernel
theorem m_X10_init_j17 : Cond.instanceMethod yX6_init ∈ wsX10_init := by decide +kernel
theorem m_X10_init_f20 : Cond.fieldLink RX10 20 "WardenHouse$Words" "found" "LWardenHouse$Row;" ∈ wsX10_init := by decide +kernel
theorem m_X10_init_f24 : Cond.fieldLink RX10 24 "WardenHouse$Words" "patterns" "LWardenHouse$Row;" ∈ wsX10_init := by decide +kernel
theorem m_X10_init_a0 : Cond.arrayClass .byte ∈ wsX10_init := by decide +kernel
theorem m_X10_init_f27 : Cond.fieldLink RX10 27 "WardenHouse$Words" "text" "[B" ∈ wsX10_init := by decide +kernel
set_option maxHeartbeats 4000000 in
set_option maxRecDepth 100000 in
/-- Words() -/
theorem k_Words_init (l : Launch) (D : va_G) (cA : Nat → ClassId) (E : hp_N) (sz : Nat) (g : hp_M) (hcs : st_cs E) (hfm : st_fm E) (sq sv n : Nat) (b : Nat → Int32) (hst : st_str E sq sv n b) (hn : n < 2 ^ 31) (hkr : ∀ A U H, E A U H → vk_R "WardenHouse$Words" 31 "grant module field let in if then else try catch priv under fun new none self ctx check able out spawn wait fail " sq U) (hkw : ∀ i, i < n → ¬ (kwS b i).1 < 0 ∧ (kwS b i).1 < 23) (h : Nat) (hh : g h = some (.inr (10, [.null, .null, .null, .null, .int 0, .int 0, .int 0, .int 0, .int 0, .int 0, .long 0]))) : Met l yX10_init wsX10_init ({ frames := 4, cells := 6, slots := 284, locals := 110 }) (hp_Pc D vwCl (hp_Tl cA) E sz g [.ref h]) (hp_Qv D vwCl (hp_Tl cA) sz g (fun u => hp_extX h g u ∧ ∃ a : Nat → Nat, u h = some (.inr (10, [.ref (a 0), .ref (a 1), .ref (a 2), .ref (a 3), .int 0, .int 0, .int 0, .int 0, .int 0, .int 0, .long 0])) ∧ u (a 0) = some (.inl (cA 2, 23, .inr (.inl (kwS b n).2.2))) ∧ u (a 1) = some (.inr (6, [.ref (a 11), .int 0])) ∧ u (a 11) = some (.inl (cA 2, 192, .inr (.inl (fun _ => 0)))) ∧ u (a 2) = some (.inr (6, [.ref (a 12), .int 0])) ∧ u (a 12) = some (.inl (cA 2, 64, .inr (.inl (fun _ => 0)))) ∧ u (a 3) = some (.inl (cA 0, 1, .inl (fun _ => 0))) ∧ a 1 ≠ a 2 ∧ g (a 0) = none ∧ g (a 1) = none ∧ g (a 2) = none ∧ g (a 3) = none ∧ g (a 11) = none ∧ g (a 12) = none)) 6 284 (hp_A g sz) := by
  refine hp_ofW (cc := cX10_init) (maxL := 5) (ret := none) (by decide) rfl (Nat.le_of_ble_eq_true rfl) ?_
  intro pp ee ss mm bb mt cd ls cx hsz hw hl
  have hl : lv_has ls 5 [(0, .ref h)] := hl
  refine lv_aload_n cx.1 cx.2.1 dX10_init_0 rfl (lv_at hl 0 rfl) ?_
  refine W.objInit cx.1 cx.2.1 cx.2.2.2.2.1 (cx.2.2.2.2.2.1 _ m_X10_init_oi) (cx.2.2.2.2.2.1 _ m_X10_init_oj) (cx.2.2.2.2.2.1 _ m_X10_init_ok) rfl (by rw [cx.2.2.2.1]; exact hl.1) rfl dX10_init_1 (Nat.le_of_ble_eq_true rfl) (Nat.le_of_ble_eq_true rfl) ?_
  refine W.eq (g2 := F0 mm 4 ls []) rfl ?_
  refine lv_aload_n cx.1 cx.2.1 dX10_init_4 rfl (lv_at hl 0 rfl) ?_
  refine lv_bipush (v := 23) cx.1 cx.2.1 dX10_init_5 (by decide) ?_
  refine hp_newa (atype := .long) (N' := 23) (a0 := (23, .inr (.inl (fun _ => 0)))) cx hw m_X10_init_a2 2 (ty := .long) rfl rfl (fun _ => rfl) (by decide) (by decide) (by decide) (by exact Nat.le_of_ble_eq_true rfl) (by exact Nat.le_of_ble_eq_true rfl) dX10_init_7 (fun q1 g2 H nq1 eg2 hw => ?_)
  have f3 : g2 q1 = some (.inl (cA 2, 23, .inr (.inl (fun _ => 0)))) := (by rw [eg2]; exact hp_up_self _ _ _)
  have f4 : g2 h = some (.inr (10, [.null, .null, .null, .null, .int 0, .int 0, .int 0, .int 0, .int 0, .int 0, .long 0])) := (by rw [eg2]; exact (hp_up_ne _ _ (hp_neN hh nq1)).trans hh)
  refine hp_putF (C := RX10) (T := TX10) (N := 11) (ci := 10) (fs' := [.ref q1, .null, .null, .null, .int 0, .int 0, .int 0, .int 0, .int 0, .int 0, .long 0]) cx hw i_X10_init_X10 tyX10_ok nmX10 rfl f4 0 (by decide) m_X10_init_f11 rfl rfl rfl rfl rfl (Nat.le_of_ble_eq_true rfl) rfl dX10_init_9 (fun g5 H locs eg5 hw => ?_)
  have f6 : g5 h = some (.inr (10, [.ref q1, .null, .null, .null, .int 0, .int 0, .int 0, .int 0, .int 0, .int 0, .long 0])) := (by rw [eg5]; exact hp_up_self _ _ _)
  refine lv_aload_n cx.1 cx.2.1 dX10_init_12 rfl (lv_at hl 0 rfl) ?_
  refine hp_new (C := RX6) (T := TX6) (N := 2) (ci := 6) (fs := [.null, .int 0]) cx hw i_X10_init_X6 tyX6_ok rfl m_X10_init_k15 m_X10_init_n6 m_X10_init_z6 nwX6 (by exact Nat.le_of_ble_eq_true rfl) (by exact Nat.le_of_ble_eq_true rfl) dX10_init_13 (fun q7 g8 H nq7 eg8 hw => ?_)
  have f9 : g8 q7 = some (.inr (6, [.null, .int 0])) := (by rw [eg8]; exact hp_up_self _ _ _)
  refine lv_dup cx.1 cx.2.1 dX10_init_16 rfl ?_
  refine lv_sipush (v := 192) cx.1 cx.2.1 dX10_init_17 (by decide) ?_
  refine hp_callIv (As := [.int 192]) (rest := [.ref q7, .ref h]) cx hw (k_Row_init l D cA E _ g8 q7 0 192 192 f9 (by decide) (by decide) (by decide)) (cwI 1 cx.2.2.2.2.2.1 gX10_init_X6_init rfl rfl rfl (cx.2.2.2.2.2.1 _ m_X10_init_z6) (cx.2.2.2.2.2.1 _ m_X10_init_l17) (cx.2.2.2.2.2.1 _ m_X10_init_j17) rfl (by decide +kernel) ⟨Nat.le_of_ble_eq_true rfl, Nat.le_of_ble_eq_true rfl⟩) rfl hl.1 rfl (Nat.le_of_ble_eq_true rfl) dX10_init_20 ⟨Nat.le_of_ble_eq_true rfl, Nat.le_of_ble_eq_true rfl⟩ (fun u10 H locs hp12 hw => ?_)
  obtain ⟨k13, g14, nk13, eg14, eu10⟩ := hp12
  have f15 : g14 k13 = some (.inl (cA 2, 192, .inr (.inl (fun _ => 0)))) := (by rw [eg14]; exact hp_up_self _ _ _)
  have f16 : u10 q7 = some (.inr (6, [.ref k13, .int 0])) := (by rw [eu10]; exact hp_up_self _ _ _)
  have f17 : g8 h = some (.inr (10, [.ref q1, .null, .null, .null, .int 0, .int 0, .int 0, .int 0, .int 0, .int 0, .long 0])) := (by rw [eg8]; exact (hp_up_ne _ _ (hp_neN f6 nq7)).trans f6)
  have f18 : g14 h = some (.inr (10, [.ref q1, .null, .null, .null, .int 0, .int 0, .int 0, .int 0, .int 0, .int 0, .long 0])) := (by rw [eg14]; exact (hp_up_ne _ _ (hp_neN f17 nk13)).trans f17)
  have f19 : u10 h = some (.inr (10, [.ref q1, .null, .null, .null, .int 0, .int 0, .int 0, .int 0, .int 0, .int 0, .long 0])) := (by rw [eu10]; exact (hp_up_ne _ _ (hp_neN f6 nq7)).trans f18)
  refine hp_putF (C := RX10) (T := TX10) (N := 11) (ci := 10) (fs' := [.ref q1, .ref q7, .null, .null, .int 0, .int 0, .int 0, .int 0, .int 0, .int 0, .long 0]) cx hw i_X10_init_X10 tyX10_ok nmX10 rfl f19 1 (by decide) m_X10_init_f20 rfl rfl rfl rfl rfl (Nat.le_of_ble_eq_true rfl) rfl dX10_init_23 (fun g20 H locs eg20 hw => ?_)
  have f21 : g20 h = some (.inr (10, [.ref q1, .ref q7, .null, .null, .int 0, .int 0, .int 0, .int 0, .int 0, .int 0, .long 0])) := (by rw [eg20]; exact hp_up_self _ _ _)
  refine lv_aload_n cx.1 cx.2.1 dX10_init_26 rfl (lv_at hl 0 rfl) ?_
  refine hp_new (C := RX6) (T := TX6) (N := 2) (ci := 6) (fs := [.null, .int 0]) cx hw i_X10_init_X6 tyX6_ok rfl m_X10_init_k15 m_X10_init_n6 m_X10_init_z6 nwX6 (by exact Nat.le_of_ble_eq_true rfl) (by exact Nat.le_of_ble_eq_true rfl) dX10_init_27 (fun q22 g23 H nq22 eg23 hw => ?_)
  have f24 : g23 q22 = some (.inr (6, [.null, .int 0])) := (by rw [eg23]; exact hp_up_self _ _ _)
  refine lv_dup cx.1 cx.2.1 dX10_init_30 rfl ?_
  refine lv_bipush (v := 64) cx.1 cx.2.1 dX10_init_31 (by decide) ?_
  refine hp_callIv (As := [.int 64]) (rest := [.ref q22, .ref h]) cx hw (k_Row_init l D cA E _ g23 q22 0 64 64 f24 (by decide) (by decide) (by decide)) (cwI 1 cx.2.2.2.2.2.1 gX10_init_X6_init rfl rfl rfl (cx.2.2.2.2.2.1 _ m_X10_init_z6) (cx.2.2.2.2.2.1 _ m_X10_init_l17) (cx.2.2.2.2.2.1 _ m_X10_init_j17) rfl (by decide +kernel) ⟨Nat.le_of_ble_eq_true rfl, Nat.le_of_ble_eq_true rfl⟩) rfl hl.1 rfl (Nat.le_of_ble_eq_true rfl) dX10_init_33 ⟨Nat.le_of_ble_eq_true rfl, Nat.le_of_ble_eq_true rfl⟩ (fun u25 H locs hp27 hw => ?_)
  obtain ⟨k28, g29, nk28, eg29, eu25⟩ := hp27
  have f30 : g29 k28 = some (.inl (cA 2, 64, .inr (.inl (fun _ => 0)))) := (by rw [eg29]; exact hp_up_self _ _ _)
  have f31 : u25 q22 = some (.inr (6, [.ref k28, .int 0])) := (by rw [eu25]; exact hp_up_self _ _ _)
  have f32 : g23 h = some (.inr (10, [.ref q1, .ref q7, .null, .null, .int 0, .int 0, .int 0, .int 0, .int 0, .int 0, .long 0])) := (by rw [eg23]; exact (hp_up_ne _ _ (hp_neN f21 nq22)).trans f21)
  have f33 : g29 h = some (.inr (10, [.ref q1, .ref q7, .null, .null, .int 0, .int 0, .int 0, .int 0, .int 0, .int 0, .long 0])) := (by rw [eg29]; exact (hp_up_ne _ _ (hp_neN f32 nk28)).trans f32)
  have f34 : u25 h = some (.inr (10, [.ref q1, .ref q7, .null, .null, .int 0, .int 0, .int 0, .int 0, .int 0, .int 0, .long 0])) := (by rw [eu25]; exact (hp_up_ne _ _ (hp_neN f21 nq22)).trans f33)
  refine hp_putF (C := RX10) (T := TX10) (N := 11) (ci := 10) (fs' := [.ref q1, .ref q7, .ref q22, .null, .int 0, .int 0, .int 0, .int 0, .int 0, .int 0, .long 0]) cx hw i_X10_init_X10 tyX10_ok nmX10 rfl f34 2 (by decide) m_X10_init_f24 rfl rfl rfl rfl rfl (Nat.le_of_ble_eq_true rfl) rfl dX10_init_36 (fun g35 H locs eg35 hw => ?_)
  have f36 : g35 h = some (.inr (10, [.ref q1, .ref q7, .ref q22, .null, .int 0, .int 0, .int 0, .int 0, .int 0, .int 0, .long 0])) := (by rw [eg35]; exact hp_up_self _ _ _)
  refine lv_aload_n cx.1 cx.2.1 dX10_init_39 rfl (lv_at hl 0 rfl) ?_
  refine lv_iconst (v := 1) cx.1 cx.2.1 dX10_init_40 (by decide) ?_
  refine hp_newa (atype := .byte) (N' := 1) (a0 := (1, .inl (fun _ => 0))) cx hw m_X10_init_a0 0 (ty := .byte) rfl rfl (fun _ => rfl) (by decide) (by decide) (by decide) (by exact Nat.le_of_ble_eq_true rfl) (by exact Nat.le_of_ble_eq_true rfl) dX10_init_41 (fun q37 g38 H nq37 eg38 hw => ?_)
  have f39 : g38 q37 = some (.inl (cA 0, 1, .inl (fun _ => 0))) := (by rw [eg38]; exact hp_up_self _ _ _)
  have f40 : g38 h = some (.inr (10, [.ref q1, .ref q7, .ref q22, .null, .int 0, .int 0, .int 0, .int 0, .int 0, .int 0, .long 0])) := (by rw [eg38]; exact (hp_up_ne _ _ (hp_neN f36 nq37)).trans f36)
  refine hp_put (C := RX10) (T := TX10) (N := 11) (ci := 10) (fs' := [.ref q1, .ref q7, .ref q22, .ref q37, .int 0, .int 0, .int 0, .int 0, .int 0, .int 0, .long 0]) cx hw i_X10_init_X10 tyX10_ok nmX10 rfl f40 3 (by decide) m_X10_init_f27 rfl  rfl rfl (Nat.le_of_ble_eq_true rfl) rfl dX10_init_43 (fun g41 H locs eg41 hw => ?_)
  have f42 : g41 h = some (.inr (10, [.ref q1, .ref q7, .ref q22, .ref q37, .int 0, .int 0, .int 0, .int 0, .int 0, .int 0, .long 0])) := (by rw [eg41]; exact hp_up_self _ _ _)
  refine lv_iconst (v := 0) cx.1 cx.2.1 dX10_init_46 (by decide) ?_
  refine lv_istore_n (lv' := [(1, .int 0), (0, .ref h)]) cx.1 cx.2.1 dX10_init_47 rfl hl (by decide) rfl (fun ls hl => ?_)
  refine lv_lconst (v := 0) cx.1 cx.2.1 dX10_init_48 (by decide) ?_
  refine lv_lstore_n (lv' := [(2, .long 0), (1, .int 0), (0, .ref h)]) cx.1 cx.2.1 dX10_init_49 rfl hl (by decide) rfl (fun ls hl => ?_)
  refine lv_iconst (v := 0) cx.1 cx.2.1 dX10_init_50 (by decide) ?_
  refine lv_istore (lv' := [(4, .int 0), (2, .long 0), (1, .int 0), (0, .ref h)]) cx.1 cx.2.1 dX10_init_51 hl (by decide) rfl (fun ls hl => ?_)
  refine W.widen (k := 6) (n := 284) (by decide) (by decide) ?_
  have f43 : g5 q1 = some (.inl (cA 2, 23, .inr (.inl (fun _ => 0)))) := (by rw [eg5]; exact (hp_up_ne _ _ (hp_neAO f3 f4)).trans f3)
  have f44 : g8 q1 = some (.inl (cA 2, 23, .inr (.inl (fun _ => 0)))) := (by rw [eg8]; exact (hp_up_ne _ _ (hp_neN f43 nq7)).trans f43)
  have f45 : g14 q1 = some (.inl (cA 2, 23, .inr (.inl (fun _ => 0)))) := (by rw [eg14]; exact (hp_up_ne _ _ (hp_neN f44 nk13)).trans f44)
  have f46 : u10 q1 = some (.inl (cA 2, 23, .inr (.inl (fun _ => 0)))) := (by rw [eu10]; exact (hp_up_ne _ _ (hp_neN f43 nq7)).trans f45)
  have f47 : g20 q1 = some (.inl (cA 2, 23, .inr (.inl (fun _ => 0)))) := (by rw [eg20]; exact (hp_up_ne _ _ (hp_neAO f46 f19)).trans f46)
  have f48 : g23 q1 = some (.inl (cA 2, 23, .inr (.inl (fun _ => 0)))) := (by rw [eg23]; exact (hp_up_ne _ _ (hp_neN f47 nq22)).trans f47)
  have f49 : g29 q1 = some (.inl (cA 2, 23, .inr (.inl (fun _ => 0)))) := (by rw [eg29]; exact (hp_up_ne _ _ (hp_neN f48 nk28)).trans f48)
  have f50 : u25 q1 = some (.inl (cA 2, 23, .inr (.inl (fun _ => 0)))) := (by rw [eu25]; exact (hp_up_ne _ _ (hp_neN f47 nq22)).trans f49)
  have f51 : g35 q1 = some (.inl (cA 2, 23, .inr (.inl (fun _ => 0)))) := (by rw [eg35]; exact (hp_up_ne _ _ (hp_neAO f50 f34)).trans f50)
  have f52 : g38 q1 = some (.inl (cA 2, 23, .inr (.inl (fun _ => 0)))) := (by rw [eg38]; exact (hp_up_ne _ _ (hp_neN f51 nq37)).trans f51)
  have f53 : g41 q1 = some (.inl (cA 2, 23, .inr (.inl (fun _ => 0)))) := (by rw [eg41]; exact (hp_up_ne _ _ (hp_neAO f52 f40)).trans f52)
  have loop : ∀ (j i : Nat) (gi : hp_M) (H : Heap) (locs : List Loc) (ls : Array Slot), i + j = n → gi q1 = some (.inl (cA 2, 23, .inr (.inl (kwS b i).2.2))) → hp_extX q1 g41 gi → hp_w D vwCl (hp_Tl cA) E (hp_A g sz) ss H locs gi → lv_has ls 5 [(4, .int (nI i)), (2, .long (kwS b i).2.1), (1, .int (kwS b i).1), (0, .ref h)] → W pp l ee ({ frames := 4, cells := 6, slots := 284, locals := 110 }) ss mm [.ref h].toArray bb mt cd H locs (6) (284) (MQ bb (hp_Qv D vwCl (hp_Tl cA) sz g (fun u => hp_extX h g u ∧ ∃ a : Nat → Nat, u h = some (.inr (10, [.ref (a 0), .ref (a 1), .ref (a 2), .ref (a 3), .int 0, .int 0, .int 0, .int 0, .int 0, .int 0, .long 0])) ∧ u (a 0) = some (.inl (cA 2, 23, .inr (.inl (kwS b n).2.2))) ∧ u (a 1) = some (.inr (6, [.ref (a 11), .int 0])) ∧ u (a 11) = some (.inl (cA 2, 192, .inr (.inl (fun _ => 0)))) ∧ u (a 2) = some (.inr (6, [.ref (a 12), .int 0])) ∧ u (a 12) = some (.inl (cA 2, 64, .inr (.inl (fun _ => 0)))) ∧ u (a 3) = some (.inl (cA 0, 1, .inl (fun _ => 0))) ∧ a 1 ≠ a 2 ∧ g (a 0) = none ∧ g (a 1) = none ∧ g (a 2) = none ∧ g (a 3) = none ∧ g (a 11) = none ∧ g (a 12) = none)) [.ref h].toArray ss 6 284 (hp_A g sz)) (F0 mm 53 ls []) := by
    intro j
    induction j with
    | zero =>
      intro i gi H locs ls hij h1 h4 hw hl
      have hi : i = n := by omega
      refine lv_iload cx.1 cx.2.1 dX10_init_53 (lv_at hl 0 rfl) ?_
      refine va_ldcS cx.1 cx.2.1 cx.2.2.2.2.1 (hkr _ _ _ hw.2.2.2.2.2) dX10_init_55 ?_
      refine hp_callKi (As := []) (rest := [.int (nI i)]) cx hw (k_Str_length l D cA E _ gi hcs sq sv n b hst hn) (cwV 0 cx.2.2.2.2.2.1 gX10_init_J0_length_8abf5 rfl rfl rfl (by decide +kernel) ⟨Nat.le_of_ble_eq_true rfl, Nat.le_of_ble_eq_true rfl⟩) (hst _ _ _ hw.2.2.2.2.2).1 rfl hl.1 rfl (Nat.le_of_ble_eq_true rfl) dX10_init_57 ⟨Nat.le_of_ble_eq_true rfl, Nat.le_of_ble_eq_true rfl⟩ (fun r55 u54 H locs hp56 hw => ?_)
      obtain ⟨euu54, err55⟩ := hp56
      rw [euu54] at hw
      subst err55
      refine lv_icmp_ge (tgt := 114) cx.1 cx.2.1 dX10_init_60 (by decide) (fun c60_57 => ?_) (fun c60_57 => ?_)
      rotate_left
      · exact absurd (by rw [hi]; exact Int32.le_refl _) c60_57
      have f58 : gi h = some (.inr (10, [.ref q1, .ref q7, .ref q22, .ref q37, .int 0, .int 0, .int 0, .int 0, .int 0, .int 0, .long 0])) := h4 _ _ (hp_neOA f42 f53) f42
      have f59 : g20 q7 = some (.inr (6, [.ref k13, .int 0])) := (by rw [eg20]; exact (hp_up_ne _ _ (hp_neK f16 f19 (by decide))).trans f16)
      have f60 : g23 q7 = some (.inr (6, [.ref k13, .int 0])) := (by rw [eg23]; exact (hp_up_ne _ _ (hp_neN f59 nq22)).trans f59)
      have f61 : g29 q7 = some (.inr (6, [.ref k13, .int 0])) := (by rw [eg29]; exact (hp_up_ne _ _ (hp_neN f60 nk28)).trans f60)
      have f62 : u25 q7 = some (.inr (6, [.ref k13, .int 0])) := (by rw [eu25]; exact (hp_up_ne _ _ (hp_neN f59 nq22)).trans f61)
      have f63 : g35 q7 = some (.inr (6, [.ref k13, .int 0])) := (by rw [eg35]; exact (hp_up_ne _ _ (hp_neK f62 f34 (by decide))).trans f62)
      have f64 : g38 q7 = some (.inr (6, [.ref k13, .int 0])) := (by rw [eg38]; exact (hp_up_ne _ _ (hp_neN f63 nq37)).trans f63)
      have f65 : g41 q7 = some (.inr (6, [.ref k13, .int 0])) := (by rw [eg41]; exact (hp_up_ne _ _ (hp_neK f64 f40 (by decide))).trans f64)
      have f66 : gi q7 = some (.inr (6, [.ref k13, .int 0])) := h4 _ _ (hp_neOA f65 f53) f65
      have f67 : g35 q22 = some (.inr (6, [.ref k28, .int 0])) := (by rw [eg35]; exact (hp_up_ne _ _ (hp_neK f31 f34 (by decide))).trans f31)
      have f68 : g38 q22 = some (.inr (6, [.ref k28, .int 0])) := (by rw [eg38]; exact (hp_up_ne _ _ (hp_neN f67 nq37)).trans f67)
      have f69 : g41 q22 = some (.inr (6, [.ref k28, .int 0])) := (by rw [eg41]; exact (hp_up_ne _ _ (hp_neK f68 f40 (by decide))).trans f68)
      have f70 : gi q22 = some (.inr (6, [.ref k28, .int 0])) := h4 _ _ (hp_neOA f69 f53) f69
      have hxt : hp_extX h g gi := by
        intro b e hb hg
        have b_g2 : g2 b = some e := by rw [eg2]; exact (hp_up_ne _ _ (hp_neN hg nq1)).trans hg
        have b_g5 : g5 b = some e := by rw [eg5]; exact (hp_up_ne _ _ (hb)).trans b_g2
        have b_g8 : g8 b = some e := by rw [eg8]; exact (hp_up_ne _ _ (hp_neN b_g5 nq7)).trans b_g5
        have b_g14 : g14 b = some e := by rw [eg14]; exact (hp_up_ne _ _ (hp_neN b_g8 nk13)).trans b_g8
        have b_u10 : u10 b = some e := by rw [eu10]; exact (hp_up_ne _ _ (hp_neN hg (hp_up_none eg2 (hp_up_none eg5 (nq7))))).trans b_g14
        have b_g20 : g20 b = some e := by rw [eg20]; exact (hp_up_ne _ _ (hb)).trans b_u10
        have b_g23 : g23 b = some e := by rw [eg23]; exact (hp_up_ne _ _ (hp_neN b_g20 nq22)).trans b_g20
        have b_g29 : g29 b = some e := by rw [eg29]; exact (hp_up_ne _ _ (hp_neN b_g23 nk28)).trans b_g23
        have b_u25 : u25 b = some e := by rw [eu25]; exact (hp_up_ne _ _ (hp_neN hg (hp_up_none eg2 (hp_up_none eg5 (hp_up_none eg8 (hp_up_none eg14 (hp_up_none eu10 (hp_up_none eg20 (nq22))))))))).trans b_g29
        have b_g35 : g35 b = some e := by rw [eg35]; exact (hp_up_ne _ _ (hb)).trans b_u25
        have b_g38 : g38 b = some e := by rw [eg38]; exact (hp_up_ne _ _ (hp_neN b_g35 nq37)).trans b_g35
        have b_g41 : g41 b = some e := by rw [eg41]; exact (hp_up_ne _ _ (hb)).trans b_g38
        have b_gi := h4 b e (hp_neN hg (nq1)) b_g41
        exact b_gi
      have f71 : g41 q37 = some (.inl (cA 0, 1, .inl (fun _ => 0))) := (by rw [eg41]; exact (hp_up_ne _ _ (hp_neAO f39 f40)).trans f39)
      have f72 : gi q37 = some (.inl (cA 0, 1, .inl (fun _ => 0))) := h4 _ _ (hp_neAA01 f71 f53) f71
      have f73 : u10 k13 = some (.inl (cA 2, 192, .inr (.inl (fun _ => 0)))) := (by rw [eu10]; exact (hp_up_ne _ _ ((Ne.symm (hp_neN f9 nk13)))).trans f15)
      have f74 : g20 k13 = some (.inl (cA 2, 192, .inr (.inl (fun _ => 0)))) := (by rw [eg20]; exact (hp_up_ne _ _ (hp_neAO f73 f19)).trans f73)
      have f75 : g23 k13 = some (.inl (cA 2, 192, .inr (.inl (fun _ => 0)))) := (by rw [eg23]; exact (hp_up_ne _ _ (hp_neN f74 nq22)).trans f74)
      have f76 : g29 k13 = some (.inl (cA 2, 192, .inr (.inl (fun _ => 0)))) := (by rw [eg29]; exact (hp_up_ne _ _ (hp_neN f75 nk28)).trans f75)
      have f77 : u25 k13 = some (.inl (cA 2, 192, .inr (.inl (fun _ => 0)))) := (by rw [eu25]; exact (hp_up_ne _ _ (hp_neN f74 nq22)).trans f76)
      have f78 : g35 k13 = some (.inl (cA 2, 192, .inr (.inl (fun _ => 0)))) := (by rw [eg35]; exact (hp_up_ne _ _ (hp_neAO f77 f34)).trans f77)
      have f79 : g38 k13 = some (.inl (cA 2, 192, .inr (.inl (fun _ => 0)))) := (by rw [eg38]; exact (hp_up_ne _ _ (hp_neN f78 nq37)).trans f78)
      have f80 : g41 k13 = some (.inl (cA 2, 192, .inr (.inl (fun _ => 0)))) := (by rw [eg41]; exact (hp_up_ne _ _ (hp_neAO f79 f40)).trans f79)
      have f81 : gi k13 = some (.inl (cA 2, 192, .inr (.inl (fun _ => 0)))) := h4 _ _ (hp_neLen f80 f53 (show (192 : Nat) ≠ 23 by decide)) f80
      have f82 : u25 k28 = some (.inl (cA 2, 64, .inr (.inl (fun _ => 0)))) := (by rw [eu25]; exact (hp_up_ne _ _ ((Ne.symm (hp_neN f24 nk28)))).trans f30)
      have f83 : g35 k28 = some (.inl (cA 2, 64, .inr (.inl (fun _ => 0)))) := (by rw [eg35]; exact (hp_up_ne _ _ (hp_neAO f82 f34)).trans f82)
      have f84 : g38 k28 = some (.inl (cA 2, 64, .inr (.inl (fun _ => 0)))) := (by rw [eg38]; exact (hp_up_ne _ _ (hp_neN f83 nq37)).trans f83)
      have f85 : g41 k28 = some (.inl (cA 2, 64, .inr (.inl (fun _ => 0)))) := (by rw [eg41]; exact (hp_up_ne _ _ (hp_neAO f84 f40)).trans f84)
      have f86 : gi k28 = some (.inl (cA 2, 64, .inr (.inl (fun _ => 0)))) := h4 _ _ (hp_neLen f85 f53 (show (64 : Nat) ≠ 23 by decide)) f85
      exact hp_vret cx hw (⟨hxt, (fun k => match k with | 0 => q1 | 1 => q7 | 2 => q22 | 3 => q37 | 11 => k13 | 12 => k28 | _ => 0), f58, by rw [← hi]; exact h1, f66, f81, f70, f86, f72, hp_neN f59 nq22, nq1, hp_up_none eg2 (hp_up_none eg5 (nq7)), hp_up_none eg2 (hp_up_none eg5 (hp_up_none eg8 (hp_up_none eg14 (hp_up_none eu10 (hp_up_none eg20 (nq22)))))), hp_up_none eg2 (hp_up_none eg5 (hp_up_none eg8 (hp_up_none eg14 (hp_up_none eu10 (hp_up_none eg20 (hp_up_none eg23 (hp_up_none eg29 (hp_up_none eu25 (hp_up_none eg35 (nq37)))))))))), hp_up_none eg2 (hp_up_none eg5 (hp_up_none eg8 (nk13))), hp_up_none eg2 (hp_up_none eg5 (hp_up_none eg8 (hp_up_none eg14 (hp_up_none eu10 (hp_up_none eg20 (hp_up_none eg23 (nk28)))))))⟩) dX10_init_114
    | succ j ih =>
      intro i gi H locs ls hij h1 h4 hw hl
      have hlt : i < n := by omega
      refine lv_iload cx.1 cx.2.1 dX10_init_53 (lv_at hl 0 rfl) ?_
      refine va_ldcS cx.1 cx.2.1 cx.2.2.2.2.1 (hkr _ _ _ hw.2.2.2.2.2) dX10_init_55 ?_
      refine hp_callKi (As := []) (rest := [.int (nI i)]) cx hw (k_Str_length l D cA E _ gi hcs sq sv n b hst hn) (cwV 0 cx.2.2.2.2.2.1 gX10_init_J0_length_8abf5 rfl rfl rfl (by decide +kernel) ⟨Nat.le_of_ble_eq_true rfl, Nat.le_of_ble_eq_true rfl⟩) (hst _ _ _ hw.2.2.2.2.2).1 rfl hl.1 rfl (Nat.le_of_ble_eq_true rfl) dX10_init_57 ⟨Nat.le_of_ble_eq_true rfl, Nat.le_of_ble_eq_true rfl⟩ (fun r88 u87 H locs hp89 hw => ?_)
      obtain ⟨euu87, err88⟩ := hp89
      rw [euu87] at hw
      subst err88
      refine lv_icmp_ge (tgt := 114) cx.1 cx.2.1 dX10_init_60 (by decide) (fun c60_90 => ?_) (fun c60_90 => ?_)
      · exact absurd c60_90 (nI_ge hlt hn)
      refine lv_iload_n cx.1 cx.2.1 dX10_init_63 rfl (lv_at hl 2 rfl) ?_
      refine lv_bipush (v := 23) cx.1 cx.2.1 dX10_init_64 (by decide) ?_
      refine lv_icmp_ge (tgt := 114) cx.1 cx.2.1 dX10_init_66 (by decide) (fun c66_91 => ?_) (fun c66_91 => ?_)
      · exact absurd c66_91 (Int32.not_le.mpr (hkw i hlt).2)
      refine va_ldcS cx.1 cx.2.1 cx.2.2.2.2.1 (hkr _ _ _ hw.2.2.2.2.2) dX10_init_69 ?_
      refine lv_iload cx.1 cx.2.1 dX10_init_71 (lv_at hl 0 rfl) ?_
      refine hp_callKi (As := [.int (nI i)]) (rest := []) cx hw (k_Str_charAt l D cA E _ gi hfm hcs sq sv n b hst hn (nI i) (nI_pos (by omega)) (nI_lt hlt (by omega))) (cwV 1 cx.2.2.2.2.2.1 gX10_init_J0_charAt_5068e rfl rfl rfl (by decide +kernel) ⟨Nat.le_of_ble_eq_true rfl, Nat.le_of_ble_eq_true rfl⟩) (hst _ _ _ hw.2.2.2.2.2).1 rfl hl.1 rfl (Nat.le_of_ble_eq_true rfl) dX10_init_73 ⟨Nat.le_of_ble_eq_true rfl, Nat.le_of_ble_eq_true rfl⟩ (fun r93 u92 H locs hp94 hw => ?_)
      obtain ⟨euu92, err93⟩ := hp94
      rw [euu92] at hw
      rw [nI_clamp (show i < 2 ^ 31 by omega)] at err93
      subst err93
      refine lv_bipush (v := 32) cx.1 cx.2.1 dX10_init_76 (by decide) ?_
      refine lv_icmp_ne (tgt := 96) cx.1 cx.2.1 dX10_init_78 (by decide) (fun c78_95 => ?_) (fun c78_95 => ?_)
      · skip
        refine lv_lload_n cx.1 cx.2.1 dX10_init_96 rfl (lv_at hl 1 rfl) ?_
        refine va_ldcS cx.1 cx.2.1 cx.2.2.2.2.1 (hkr _ _ _ hw.2.2.2.2.2) dX10_init_97 ?_
        refine lv_iload cx.1 cx.2.1 dX10_init_99 (lv_at hl 0 rfl) ?_
        refine hp_callKi (As := [.int (nI i)]) (rest := [.long (kwS b i).2.1]) cx hw (k_Str_charAt l D cA E _ gi hfm hcs sq sv n b hst hn (nI i) (nI_pos (by omega)) (nI_lt hlt (by omega))) (cwV 1 cx.2.2.2.2.2.1 gX10_init_J0_charAt_5068e rfl rfl rfl (by decide +kernel) ⟨Nat.le_of_ble_eq_true rfl, Nat.le_of_ble_eq_true rfl⟩) (hst _ _ _ hw.2.2.2.2.2).1 rfl hl.1 rfl (Nat.le_of_ble_eq_true rfl) dX10_init_101 ⟨Nat.le_of_ble_eq_true rfl, Nat.le_of_ble_eq_true rfl⟩ (fun r97 u96 H locs hp98 hw => ?_)
        obtain ⟨euu96, err97⟩ := hp98
        rw [euu96] at hw
        rw [nI_clamp (show i < 2 ^ 31 by omega)] at err97
        subst err97
        refine hp_callSl (As := [.long (kwS b i).2.1, .int (b i &&& 255)]) (rest := []) cx hw (k_codeWith l D cA E _ gi (kwS b i).2.1 (b i &&& 255)) (cwS 2 cx.2.2.2.2.2.1 gX10_init_X10_codeWith rfl rfl rfl (by decide +kernel) ⟨Nat.le_of_ble_eq_true rfl, Nat.le_of_ble_eq_true rfl⟩) rfl hl.1 rfl (Nat.le_of_ble_eq_true rfl) dX10_init_104 ⟨Nat.le_of_ble_eq_true rfl, Nat.le_of_ble_eq_true rfl⟩ (fun r100 u99 H locs hp101 hw => ?_)
        obtain ⟨euu99, err100⟩ := hp101
        rw [euu99] at hw
        subst err100
        refine lv_lstore_n (lv' := [(2, .long (cw_ (kwS b i).2.1 (b i &&& 255))), (4, .int (nI i)), (1, .int (kwS b i).1), (0, .ref h)]) cx.1 cx.2.1 dX10_init_107 rfl hl (by decide) rfl (fun ls hl => ?_)
        refine lv_iinc (v := (nI (i + 1))) (lv' := [(4, .int (nI (i + 1))), (2, .long (cw_ (kwS b i).2.1 (b i &&& 255))), (1, .int (kwS b i).1), (0, .ref h)]) cx.1 cx.2.1 dX10_init_108 hl (k := 1) rfl (nI_1 i) (by decide) rfl (fun ls hl => ?_)
        refine lv_goto (tgt := 53) cx.1 cx.2.1 dX10_init_111 (by decide) ?_
        have hk := (kwS_ch c78_95)
        exact ih (i + 1) gi H locs ls (by omega) (by rw [hk]; exact h1) h4 hw (by rw [hk]; exact lv_sub hl [0, 1, 2, 3] rfl)
      · skip
        refine lv_aload_n cx.1 cx.2.1 dX10_init_81 rfl (lv_at hl 3 rfl) ?_
        have f102 : gi h = some (.inr (10, [.ref q1, .ref q7, .ref q22, .ref q37, .int 0, .int 0, .int 0, .int 0, .int 0, .int 0, .long 0])) := h4 _ _ (hp_neOA f42 f53) f42
        refine hp_get (C := RX10) (T := TX10) (N := 11) (ci := 10) cx hw i_X10_init_X10 rfl f102 0 (by decide) m_X10_init_f11 (v := .ref q1) rfl dX10_init_82 ?_
        refine lv_iload_n cx.1 cx.2.1 dX10_init_85 rfl (lv_at hl 2 rfl) ?_
        refine lv_lload_n cx.1 cx.2.1 dX10_init_86 rfl (lv_at hl 1 rfl) ?_
        refine hp_last cx hw 2 h1 rfl (row_in (hkw i hlt).1 (hkw i hlt).2 (by decide)) dX10_init_87 (fun g103 H locs eg103 hw => ?_)
        have f104 : g103 q1 = some (.inl (cA 2, 23, .inr (.inl (vp_updL (kwS b i).2.2 (kwS b i).1.toNatClampNeg (kwS b i).2.1)))) := (by rw [eg103]; exact hp_up_self _ _ _)
        refine lv_iinc (v := ((kwS b i).1 + 1)) (lv' := [(1, .int ((kwS b i).1 + 1)), (4, .int (nI i)), (2, .long (kwS b i).2.1), (0, .ref h)]) cx.1 cx.2.1 dX10_init_88 hl (k := 2) rfl rfl (by decide) rfl (fun ls hl => ?_)
        refine lv_lconst (v := 0) cx.1 cx.2.1 dX10_init_91 (by decide) ?_
        refine lv_lstore_n (lv' := [(2, .long 0), (1, .int ((kwS b i).1 + 1)), (4, .int (nI i)), (0, .ref h)]) cx.1 cx.2.1 dX10_init_92 rfl hl (by decide) rfl (fun ls hl => ?_)
        refine lv_goto (tgt := 108) cx.1 cx.2.1 dX10_init_93 (by decide) ?_
        refine lv_iinc (v := (nI (i + 1))) (lv' := [(4, .int (nI (i + 1))), (2, .long 0), (1, .int ((kwS b i).1 + 1)), (0, .ref h)]) cx.1 cx.2.1 dX10_init_108 hl (k := 2) rfl (nI_1 i) (by decide) rfl (fun ls hl => ?_)
        refine lv_goto (tgt := 53) cx.1 cx.2.1 dX10_init_111 (by decide) ?_
        have hk := (kwS_sp c78_95)
        have hx2 : hp_extX q1 g41 g103 := fun b e hb hg => by rw [eg103]; exact (hp_up_ne _ _ hb).trans (h4 b e hb hg)
        exact ih (i + 1) g103 H locs ls (by omega) (by rw [hk]; exact f104) hx2 hw (by rw [hk]; exact lv_sub hl [0, 1, 2, 3] rfl)
  exact loop n 0 g41 _ _ _ (by omega) f53 (fun _ _ _ h => h) hw (lv_sub hl [0, 1, 2, 3] rfl)
