theorem m_X5_init_oi : Cond.methodLink RX5 3 objectInit ∈ wsX5_init := by decide +kernel
theorem m_X5_init_oj : Cond.instanceMethod objectInit ∈ wsX5_init := by decide +kernel
theorem m_X5_init_ok : Cond.code objectInit ⟨#[0xb1]⟩ 1 none ∈ wsX5_init := by decide +kernel
theorem m_X5_init_a2 : Cond.arrayClass .long ∈ wsX5_init := by decide +kernel
theorem m_X5_init_f9 : Cond.fieldLink RX5 9 "WardenHouse$Right" "steps" "[J" ∈ wsX5_init := by decide +kernel
set_option maxRecDepth 20000 in
theorem i_X5_init_X5 : ∀ w ∈ wsX50, w ∈ wsX5_init := by decide +kernel
set_option maxHeartbeats 4000000 in
set_option maxRecDepth 100000 in
/-- Right(): a place for five STEPS -/
theorem k_Right_init (l : Launch) (D : va_G) (cA : Nat → ClassId) (E : hp_N) (sz : Nat) (g : hp_M) (h : Nat) (hh : g h = some (.inr (5, [.long 0, .null, .int 0, .int 0]))) : Met l yX5_init wsX5_init ({ frames := 1, cells := 1, slots := 5, locals := 12 }) (hp_Pc D vwCl (hp_Tl cA) E sz g [.ref h]) (hp_Qv D vwCl (hp_Tl cA) sz g (pl_made 2 (K_Right cA) h g)) 1 5 (hp_A g sz) := by
  refine hp_ofW (cc := cX5_init) (maxL := 1) (ret := none) (by decide) rfl (Nat.le_of_ble_eq_true rfl) ?_
  intro pp ee ss mm bb mt cd ls cx hsz hw hl
  have hl : lv_has ls 1 [(0, .ref h)] := hl
  refine lv_aload_n cx.1 cx.2.1 dX5_init_0 rfl (lv_at hl 0 rfl) ?_
  refine W.objInit cx.1 cx.2.1 cx.2.2.2.2.1 (cx.2.2.2.2.2.1 _ m_X5_init_oi) (cx.2.2.2.2.2.1 _ m_X5_init_oj) (cx.2.2.2.2.2.1 _ m_X5_init_ok) rfl (by rw [cx.2.2.2.1]; exact hl.1) rfl dX5_init_1 (Nat.le_of_ble_eq_true rfl) (Nat.le_of_ble_eq_true rfl) ?_
  refine W.eq (g2 := F0 mm 4 ls []) rfl ?_
  refine lv_aload_n cx.1 cx.2.1 dX5_init_4 rfl (lv_at hl 0 rfl) ?_
  refine lv_iconst (v := 5) cx.1 cx.2.1 dX5_init_5 (by decide) ?_
  refine hp_newa (atype := .long) (N' := 5) (a0 := (5, .inr (.inl (fun _ => 0)))) cx hw m_X5_init_a2 2 (ty := .long) rfl rfl (fun _ => rfl) (by decide) (by decide) (by decide) (by exact Nat.le_of_ble_eq_true rfl) (by exact Nat.le_of_ble_eq_true rfl) dX5_init_6 (fun q1 g2 H nq1 eg2 hw => ?_)
  have f3 : g2 q1 = some (.inl (cA 2, 5, .inr (.inl (fun _ => 0)))) := (by rw [eg2]; exact hp_up_self _ _ _)
  have f4 : g2 h = some (.inr (5, [.long 0, .null, .int 0, .int 0])) := (by rw [eg2]; exact (hp_up_ne _ _ (hp_neN hh nq1)).trans hh)
  refine hp_putF (C := RX5) (T := TX5) (N := 4) (ci := 5) (fs' := [.long 0, .ref q1, .int 0, .int 0]) cx hw i_X5_init_X5 tyX5_ok nmX5 rfl f4 1 (by decide) m_X5_init_f9 rfl rfl rfl rfl rfl (Nat.le_of_ble_eq_true rfl) rfl dX5_init_8 (fun g5 H locs eg5 hw => ?_)
  have f6 : g5 h = some (.inr (5, [.long 0, .ref q1, .int 0, .int 0])) := (by rw [eg5]; exact hp_up_self _ _ _)
  have f7 : g5 q1 = some (.inl (cA 2, 5, .inr (.inl (fun _ => 0)))) := (by rw [eg5]; exact (hp_up_ne _ _ (hp_neAO f3 f4)).trans f3)
  have ne0_1 : h ≠ q1 := hp_neOA f6 f7
  have his : pl_is 2 (K_Right cA) g5 (fun j => match j with | 0 => h | _ => q1) := by
    intro j hj
    rcases (show j = 0 ∨ j = 1 by omega) with rfl | rfl
    · exact f6
    · exact f7
  have hnw : ∀ j, 0 < j → j < 2 → g ((fun j => match j with | 0 => h | _ => q1) j) = none := by
    intro j h0 hj
    rcases (show j = 1 by omega) with rfl
    · exact nq1
  have hij : pl_inj 2 (fun j => match j with | 0 => h | _ => q1) := by
    intro i j hi hj he
    rcases (show i = 0 ∨ i = 1 by omega) with rfl | rfl <;> rcases (show j = 0 ∨ j = 1 by omega) with rfl | rfl
    · rfl
    · exact absurd he ne0_1
    · exact absurd he.symm ne0_1
    · rfl
  have hxt : hp_extX h g g5 := by
    intro b e hb hg
    have xg2 : g2 b = some e := by rw [eg2]; exact (hp_up_ne _ _ (hp_neN hg nq1)).trans hg
    have xg5 : g5 b = some e := by rw [eg5]; exact (hp_up_ne _ _ (hb)).trans xg2
    exact xg5
  exact hp_vret cx hw (⟨(fun j => match j with | 0 => h | _ => q1), rfl, his, hnw, hij, hxt⟩) dX5_init_11

theorem m_X9_init_oi : Cond.methodLink RX9 3 objectInit ∈ wsX9_init := by decide +kernel
theorem m_X9_init_oj : Cond.instanceMethod objectInit ∈ wsX9_init := by decide +kernel
theorem m_X9_init_ok : Cond.code objectInit ⟨#[0xb1]⟩ 1 none ∈ wsX9_init := by decide +kernel
theorem m_X9_init_a1 : Cond.arrayClass .int ∈ wsX9_init := by decide +kernel
theorem m_X9_init_f11 : Cond.fieldLink RX9 11 "WardenHouse$Unit" "captures" "[I" ∈ wsX9_init := by decide +kernel
set_option maxRecDepth 20000 in
theorem i_X9_init_X9 : ∀ w ∈ wsX90, w ∈ wsX9_init := by decide +kernel
theorem m_X9_init_k15 : Cond.classLink RX9 15 RX6 ∈ wsX9_init := by decide +kernel
theorem m_X9_init_n6 : Cond.instantiable RX6 2 ∈ wsX9_init := by decide +kernel
theorem m_X9_init_z6 : Cond.initialized RX6 ∈ wsX9_init := by decide +kernel
set_option maxRecDepth 20000 in
theorem i_X9_init_X6 : ∀ w ∈ wsX60, w ∈ wsX9_init := by decide +kernel
theorem m_X9_init_l17 : Cond.methodLink RX9 17 yX6_init ∈ wsX9_init := by decide +kernel
theorem m_X9_init_j17 : Cond.instanceMethod yX6_init ∈ wsX9_init := by decide +kernel
theorem m_X9_init_f20 : Cond.fieldLink RX9 20 "WardenHouse$Unit" "script" "LWardenHouse$Row;" ∈ wsX9_init := by decide +kernel
theorem m_X9_init_f24 : Cond.fieldLink RX9 24 "WardenHouse$Unit" "plain" "LWardenHouse$Row;" ∈ wsX9_init := by decide +kernel
theorem m_X9_init_f27 : Cond.fieldLink RX9 27 "WardenHouse$Unit" "rewritten" "LWardenHouse$Row;" ∈ wsX9_init := by decide +kernel
set_option maxHeartbeats 4000000 in
set_option maxRecDepth 100000 in
/-- Unit() -/
theorem k_Unit_init (l : Launch) (D : va_G) (cA : Nat → ClassId) (E : hp_N) (sz : Nat) (g : hp_M) (h : Nat) (hh : g h = some (.inr (9, [.int 0, .int 0, .int 0, .int 0, .int 0, .long 0, .int 0, .int 0, .int 0, .int 0, .int 0, .int 0, .null, .int 0, .int 0, .null, .null, .null]))) : Met l yX9_init wsX9_init ({ frames := 2, cells := 7, slots := 75, locals := 33 }) (hp_Pc D vwCl (hp_Tl cA) E sz g [.ref h]) (hp_Qv D vwCl (hp_Tl cA) sz g (pl_made 8 (K_Unit cA) h g)) 7 75 (hp_A g sz) := by
  refine hp_ofW (cc := cX9_init) (maxL := 1) (ret := none) (by decide) rfl (Nat.le_of_ble_eq_true rfl) ?_
  intro pp ee ss mm bb mt cd ls cx hsz hw hl
  have hl : lv_has ls 1 [(0, .ref h)] := hl
  refine lv_aload_n cx.1 cx.2.1 dX9_init_0 rfl (lv_at hl 0 rfl) ?_
  refine W.objInit cx.1 cx.2.1 cx.2.2.2.2.1 (cx.2.2.2.2.2.1 _ m_X9_init_oi) (cx.2.2.2.2.2.1 _ m_X9_init_oj) (cx.2.2.2.2.2.1 _ m_X9_init_ok) rfl (by rw [cx.2.2.2.1]; exact hl.1) rfl dX9_init_1 (Nat.le_of_ble_eq_true rfl) (Nat.le_of_ble_eq_true rfl) ?_
  refine W.eq (g2 := F0 mm 4 ls []) rfl ?_
  refine lv_aload_n cx.1 cx.2.1 dX9_init_4 rfl (lv_at hl 0 rfl) ?_
  refine lv_bipush (v := 13) cx.1 cx.2.1 dX9_init_5 (by decide) ?_
  refine hp_newa (atype := .int) (N' := 13) (a0 := (13, .inl (fun _ => 0))) cx hw m_X9_init_a1 1 (ty := .int) rfl rfl (fun _ => rfl) (by decide) (by decide) (by decide) (by exact Nat.le_of_ble_eq_true rfl) (by exact Nat.le_of_ble_eq_true rfl) dX9_init_7 (fun q1 g2 H nq1 eg2 hw => ?_)
  have f3 : g2 q1 = some (.inl (cA 1, 13, .inl (fun _ => 0))) := (by rw [eg2]; exact hp_up_self _ _ _)
  have f4 : g2 h = some (.inr (9, [.int 0, .int 0, .int 0, .int 0, .int 0, .long 0, .int 0, .int 0, .int 0, .int 0, .int 0, .int 0, .null, .int 0, .int 0, .null, .null, .null])) := (by rw [eg2]; exact (hp_up_ne _ _ (hp_neN hh nq1)).trans hh)
  refine hp_putF (C := RX9) (T := TX9) (N := 18) (ci := 9) (fs' := [.int 0, .int 0, .int 0, .int 0, .int 0, .long 0, .int 0, .int 0, .int 0, .int 0, .int 0, .int 0, .ref q1, .int 0, .int 0, .null, .null, .null]) cx hw i_X9_init_X9 tyX9_ok nmX9 rfl f4 12 (by decide) m_X9_init_f11 rfl rfl rfl rfl rfl (Nat.le_of_ble_eq_true rfl) rfl dX9_init_9 (fun g5 H locs eg5 hw => ?_)
  have f6 : g5 h = some (.inr (9, [.int 0, .int 0, .int 0, .int 0, .int 0, .long 0, .int 0, .int 0, .int 0, .int 0, .int 0, .int 0, .ref q1, .int 0, .int 0, .null, .null, .null])) := (by rw [eg5]; exact hp_up_self _ _ _)
  refine lv_aload_n cx.1 cx.2.1 dX9_init_12 rfl (lv_at hl 0 rfl) ?_
  refine hp_new (C := RX6) (T := TX6) (N := 2) (ci := 6) (fs := [.null, .int 0]) cx hw i_X9_init_X6 tyX6_ok rfl m_X9_init_k15 m_X9_init_n6 m_X9_init_z6 nwX6 (by exact Nat.le_of_ble_eq_true rfl) (by exact Nat.le_of_ble_eq_true rfl) dX9_init_13 (fun q7 g8 H nq7 eg8 hw => ?_)
  have f9 : g8 q7 = some (.inr (6, [.null, .int 0])) := (by rw [eg8]; exact hp_up_self _ _ _)
  refine lv_dup cx.1 cx.2.1 dX9_init_16 rfl ?_
  refine lv_bipush (v := 24) cx.1 cx.2.1 dX9_init_17 (by decide) ?_
  refine hp_callIv (As := [.int 24]) (rest := [.ref q7, .ref h]) cx hw (k_Row_init l D cA E H.size g8 q7 0 24 24 f9 (by decide) (by decide) (by decide)) (cwI 1 cx.2.2.2.2.2.1 gX9_init_X6_init rfl rfl rfl (cx.2.2.2.2.2.1 _ m_X9_init_z6) (cx.2.2.2.2.2.1 _ m_X9_init_l17) (cx.2.2.2.2.2.1 _ m_X9_init_j17) rfl (by decide +kernel) ⟨Nat.le_of_ble_eq_true rfl, Nat.le_of_ble_eq_true rfl⟩) rfl hl.1 rfl (Nat.le_of_ble_eq_true rfl) dX9_init_19 ⟨Nat.le_of_ble_eq_true rfl, Nat.le_of_ble_eq_true rfl⟩ (fun u10 H locs hp12 hw => ?_)
  obtain ⟨k13, g14, nk13, eg14, eu10⟩ := hp12
  have f15 : g14 k13 = some (.inl (cA 2, 24, .inr (.inl (fun _ => 0)))) := (by rw [eg14]; exact hp_up_self _ _ _)
  have f16 : u10 q7 = some (.inr (6, [.ref k13, .int 0])) := (by rw [eu10]; exact hp_up_self _ _ _)
  have f17 : g8 h = some (.inr (9, [.int 0, .int 0, .int 0, .int 0, .int 0, .long 0, .int 0, .int 0, .int 0, .int 0, .int 0, .int 0, .ref q1, .int 0, .int 0, .null, .null, .null])) := (by rw [eg8]; exact (hp_up_ne _ _ (hp_neN f6 nq7)).trans f6)
  have f18 : g14 h = some (.inr (9, [.int 0, .int 0, .int 0, .int 0, .int 0, .long 0, .int 0, .int 0, .int 0, .int 0, .int 0, .int 0, .ref q1, .int 0, .int 0, .null, .null, .null])) := (by rw [eg14]; exact (hp_up_ne _ _ (hp_neN f17 nk13)).trans f17)
  have f19 : u10 h = some (.inr (9, [.int 0, .int 0, .int 0, .int 0, .int 0, .long 0, .int 0, .int 0, .int 0, .int 0, .int 0, .int 0, .ref q1, .int 0, .int 0, .null, .null, .null])) := (by rw [eu10]; exact (hp_up_ne _ _ (hp_neN f6 nq7)).trans f18)
  refine hp_putF (C := RX9) (T := TX9) (N := 18) (ci := 9) (fs' := [.int 0, .int 0, .int 0, .int 0, .int 0, .long 0, .int 0, .int 0, .int 0, .int 0, .int 0, .int 0, .ref q1, .int 0, .int 0, .ref q7, .null, .null]) cx hw i_X9_init_X9 tyX9_ok nmX9 rfl f19 15 (by decide) m_X9_init_f20 rfl rfl rfl rfl rfl (Nat.le_of_ble_eq_true rfl) rfl dX9_init_22 (fun g20 H locs eg20 hw => ?_)
  have f21 : g20 h = some (.inr (9, [.int 0, .int 0, .int 0, .int 0, .int 0, .long 0, .int 0, .int 0, .int 0, .int 0, .int 0, .int 0, .ref q1, .int 0, .int 0, .ref q7, .null, .null])) := (by rw [eg20]; exact hp_up_self _ _ _)
  refine lv_aload_n cx.1 cx.2.1 dX9_init_25 rfl (lv_at hl 0 rfl) ?_
  refine hp_new (C := RX6) (T := TX6) (N := 2) (ci := 6) (fs := [.null, .int 0]) cx hw i_X9_init_X6 tyX6_ok rfl m_X9_init_k15 m_X9_init_n6 m_X9_init_z6 nwX6 (by exact Nat.le_of_ble_eq_true rfl) (by exact Nat.le_of_ble_eq_true rfl) dX9_init_26 (fun q22 g23 H nq22 eg23 hw => ?_)
  have f24 : g23 q22 = some (.inr (6, [.null, .int 0])) := (by rw [eg23]; exact hp_up_self _ _ _)
  refine lv_dup cx.1 cx.2.1 dX9_init_29 rfl ?_
  refine lv_bipush (v := 16) cx.1 cx.2.1 dX9_init_30 (by decide) ?_
  refine hp_callIv (As := [.int 16]) (rest := [.ref q22, .ref h]) cx hw (k_Row_init l D cA E H.size g23 q22 0 16 16 f24 (by decide) (by decide) (by decide)) (cwI 1 cx.2.2.2.2.2.1 gX9_init_X6_init rfl rfl rfl (cx.2.2.2.2.2.1 _ m_X9_init_z6) (cx.2.2.2.2.2.1 _ m_X9_init_l17) (cx.2.2.2.2.2.1 _ m_X9_init_j17) rfl (by decide +kernel) ⟨Nat.le_of_ble_eq_true rfl, Nat.le_of_ble_eq_true rfl⟩) rfl hl.1 rfl (Nat.le_of_ble_eq_true rfl) dX9_init_32 ⟨Nat.le_of_ble_eq_true rfl, Nat.le_of_ble_eq_true rfl⟩ (fun u25 H locs hp27 hw => ?_)
  obtain ⟨k28, g29, nk28, eg29, eu25⟩ := hp27
  have f30 : g29 k28 = some (.inl (cA 2, 16, .inr (.inl (fun _ => 0)))) := (by rw [eg29]; exact hp_up_self _ _ _)
  have f31 : u25 q22 = some (.inr (6, [.ref k28, .int 0])) := (by rw [eu25]; exact hp_up_self _ _ _)
  have f32 : g23 h = some (.inr (9, [.int 0, .int 0, .int 0, .int 0, .int 0, .long 0, .int 0, .int 0, .int 0, .int 0, .int 0, .int 0, .ref q1, .int 0, .int 0, .ref q7, .null, .null])) := (by rw [eg23]; exact (hp_up_ne _ _ (hp_neN f21 nq22)).trans f21)
  have f33 : g29 h = some (.inr (9, [.int 0, .int 0, .int 0, .int 0, .int 0, .long 0, .int 0, .int 0, .int 0, .int 0, .int 0, .int 0, .ref q1, .int 0, .int 0, .ref q7, .null, .null])) := (by rw [eg29]; exact (hp_up_ne _ _ (hp_neN f32 nk28)).trans f32)
  have f34 : u25 h = some (.inr (9, [.int 0, .int 0, .int 0, .int 0, .int 0, .long 0, .int 0, .int 0, .int 0, .int 0, .int 0, .int 0, .ref q1, .int 0, .int 0, .ref q7, .null, .null])) := (by rw [eu25]; exact (hp_up_ne _ _ (hp_neN f21 nq22)).trans f33)
  refine hp_putF (C := RX9) (T := TX9) (N := 18) (ci := 9) (fs' := [.int 0, .int 0, .int 0, .int 0, .int 0, .long 0, .int 0, .int 0, .int 0, .int 0, .int 0, .int 0, .ref q1, .int 0, .int 0, .ref q7, .ref q22, .null]) cx hw i_X9_init_X9 tyX9_ok nmX9 rfl f34 16 (by decide) m_X9_init_f24 rfl rfl rfl rfl rfl (Nat.le_of_ble_eq_true rfl) rfl dX9_init_35 (fun g35 H locs eg35 hw => ?_)
  have f36 : g35 h = some (.inr (9, [.int 0, .int 0, .int 0, .int 0, .int 0, .long 0, .int 0, .int 0, .int 0, .int 0, .int 0, .int 0, .ref q1, .int 0, .int 0, .ref q7, .ref q22, .null])) := (by rw [eg35]; exact hp_up_self _ _ _)
  refine lv_aload_n cx.1 cx.2.1 dX9_init_38 rfl (lv_at hl 0 rfl) ?_
  refine hp_new (C := RX6) (T := TX6) (N := 2) (ci := 6) (fs := [.null, .int 0]) cx hw i_X9_init_X6 tyX6_ok rfl m_X9_init_k15 m_X9_init_n6 m_X9_init_z6 nwX6 (by exact Nat.le_of_ble_eq_true rfl) (by exact Nat.le_of_ble_eq_true rfl) dX9_init_39 (fun q37 g38 H nq37 eg38 hw => ?_)
  have f39 : g38 q37 = some (.inr (6, [.null, .int 0])) := (by rw [eg38]; exact hp_up_self _ _ _)
  refine lv_dup cx.1 cx.2.1 dX9_init_42 rfl ?_
  refine lv_bipush (v := 16) cx.1 cx.2.1 dX9_init_43 (by decide) ?_
  refine hp_callIv (As := [.int 16]) (rest := [.ref q37, .ref h]) cx hw (k_Row_init l D cA E H.size g38 q37 0 16 16 f39 (by decide) (by decide) (by decide)) (cwI 1 cx.2.2.2.2.2.1 gX9_init_X6_init rfl rfl rfl (cx.2.2.2.2.2.1 _ m_X9_init_z6) (cx.2.2.2.2.2.1 _ m_X9_init_l17) (cx.2.2.2.2.2.1 _ m_X9_init_j17) rfl (by decide +kernel) ⟨Nat.le_of_ble_eq_true rfl, Nat.le_of_ble_eq_true rfl⟩) rfl hl.1 rfl (Nat.le_of_ble_eq_true rfl) dX9_init_45 ⟨Nat.le_of_ble_eq_true rfl, Nat.le_of_ble_eq_true rfl⟩ (fun u40 H locs hp42 hw => ?_)
  obtain ⟨k43, g44, nk43, eg44, eu40⟩ := hp42
  have f45 : g44 k43 = some (.inl (cA 2, 16, .inr (.inl (fun _ => 0)))) := (by rw [eg44]; exact hp_up_self _ _ _)
  have f46 : u40 q37 = some (.inr (6, [.ref k43, .int 0])) := (by rw [eu40]; exact hp_up_self _ _ _)
  have f47 : g38 h = some (.inr (9, [.int 0, .int 0, .int 0, .int 0, .int 0, .long 0, .int 0, .int 0, .int 0, .int 0, .int 0, .int 0, .ref q1, .int 0, .int 0, .ref q7, .ref q22, .null])) := (by rw [eg38]; exact (hp_up_ne _ _ (hp_neN f36 nq37)).trans f36)
  have f48 : g44 h = some (.inr (9, [.int 0, .int 0, .int 0, .int 0, .int 0, .long 0, .int 0, .int 0, .int 0, .int 0, .int 0, .int 0, .ref q1, .int 0, .int 0, .ref q7, .ref q22, .null])) := (by rw [eg44]; exact (hp_up_ne _ _ (hp_neN f47 nk43)).trans f47)
  have f49 : u40 h = some (.inr (9, [.int 0, .int 0, .int 0, .int 0, .int 0, .long 0, .int 0, .int 0, .int 0, .int 0, .int 0, .int 0, .ref q1, .int 0, .int 0, .ref q7, .ref q22, .null])) := (by rw [eu40]; exact (hp_up_ne _ _ (hp_neN f36 nq37)).trans f48)
  refine hp_putF (C := RX9) (T := TX9) (N := 18) (ci := 9) (fs' := [.int 0, .int 0, .int 0, .int 0, .int 0, .long 0, .int 0, .int 0, .int 0, .int 0, .int 0, .int 0, .ref q1, .int 0, .int 0, .ref q7, .ref q22, .ref q37]) cx hw i_X9_init_X9 tyX9_ok nmX9 rfl f49 17 (by decide) m_X9_init_f27 rfl rfl rfl rfl rfl (Nat.le_of_ble_eq_true rfl) rfl dX9_init_48 (fun g50 H locs eg50 hw => ?_)
  have f51 : g50 h = some (.inr (9, [.int 0, .int 0, .int 0, .int 0, .int 0, .long 0, .int 0, .int 0, .int 0, .int 0, .int 0, .int 0, .ref q1, .int 0, .int 0, .ref q7, .ref q22, .ref q37])) := (by rw [eg50]; exact hp_up_self _ _ _)
  have f52 : g20 q7 = some (.inr (6, [.ref k13, .int 0])) := (by rw [eg20]; exact (hp_up_ne _ _ (hp_neK f16 f19 (by decide))).trans f16)
  have f53 : g23 q7 = some (.inr (6, [.ref k13, .int 0])) := (by rw [eg23]; exact (hp_up_ne _ _ (hp_neN f52 nq22)).trans f52)
  have f54 : g29 q7 = some (.inr (6, [.ref k13, .int 0])) := (by rw [eg29]; exact (hp_up_ne _ _ (hp_neN f53 nk28)).trans f53)
  have f55 : u25 q7 = some (.inr (6, [.ref k13, .int 0])) := (by rw [eu25]; exact (hp_up_ne _ _ (hp_neN f52 nq22)).trans f54)
  have f56 : g35 q7 = some (.inr (6, [.ref k13, .int 0])) := (by rw [eg35]; exact (hp_up_ne _ _ (hp_neK f55 f34 (by decide))).trans f55)
  have f57 : g38 q7 = some (.inr (6, [.ref k13, .int 0])) := (by rw [eg38]; exact (hp_up_ne _ _ (hp_neN f56 nq37)).trans f56)
  have f58 : g44 q7 = some (.inr (6, [.ref k13, .int 0])) := (by rw [eg44]; exact (hp_up_ne _ _ (hp_neN f57 nk43)).trans f57)
  have f59 : u40 q7 = some (.inr (6, [.ref k13, .int 0])) := (by rw [eu40]; exact (hp_up_ne _ _ (hp_neN f56 nq37)).trans f58)
  have f60 : g50 q7 = some (.inr (6, [.ref k13, .int 0])) := (by rw [eg50]; exact (hp_up_ne _ _ (hp_neK f59 f49 (by decide))).trans f59)
  have f61 : g35 q22 = some (.inr (6, [.ref k28, .int 0])) := (by rw [eg35]; exact (hp_up_ne _ _ (hp_neK f31 f34 (by decide))).trans f31)
  have f62 : g38 q22 = some (.inr (6, [.ref k28, .int 0])) := (by rw [eg38]; exact (hp_up_ne _ _ (hp_neN f61 nq37)).trans f61)
  have f63 : g44 q22 = some (.inr (6, [.ref k28, .int 0])) := (by rw [eg44]; exact (hp_up_ne _ _ (hp_neN f62 nk43)).trans f62)
  have f64 : u40 q22 = some (.inr (6, [.ref k28, .int 0])) := (by rw [eu40]; exact (hp_up_ne _ _ (hp_neN f61 nq37)).trans f63)
  have f65 : g50 q22 = some (.inr (6, [.ref k28, .int 0])) := (by rw [eg50]; exact (hp_up_ne _ _ (hp_neK f64 f49 (by decide))).trans f64)
  have f66 : g50 q37 = some (.inr (6, [.ref k43, .int 0])) := (by rw [eg50]; exact (hp_up_ne _ _ (hp_neK f46 f49 (by decide))).trans f46)
  have f67 : g5 q1 = some (.inl (cA 1, 13, .inl (fun _ => 0))) := (by rw [eg5]; exact (hp_up_ne _ _ (hp_neAO f3 f4)).trans f3)
  have f68 : g8 q1 = some (.inl (cA 1, 13, .inl (fun _ => 0))) := (by rw [eg8]; exact (hp_up_ne _ _ (hp_neN f67 nq7)).trans f67)
  have f69 : g14 q1 = some (.inl (cA 1, 13, .inl (fun _ => 0))) := (by rw [eg14]; exact (hp_up_ne _ _ (hp_neN f68 nk13)).trans f68)
  have f70 : u10 q1 = some (.inl (cA 1, 13, .inl (fun _ => 0))) := (by rw [eu10]; exact (hp_up_ne _ _ (hp_neN f67 nq7)).trans f69)
  have f71 : g20 q1 = some (.inl (cA 1, 13, .inl (fun _ => 0))) := (by rw [eg20]; exact (hp_up_ne _ _ (hp_neAO f70 f19)).trans f70)
  have f72 : g23 q1 = some (.inl (cA 1, 13, .inl (fun _ => 0))) := (by rw [eg23]; exact (hp_up_ne _ _ (hp_neN f71 nq22)).trans f71)
  have f73 : g29 q1 = some (.inl (cA 1, 13, .inl (fun _ => 0))) := (by rw [eg29]; exact (hp_up_ne _ _ (hp_neN f72 nk28)).trans f72)
  have f74 : u25 q1 = some (.inl (cA 1, 13, .inl (fun _ => 0))) := (by rw [eu25]; exact (hp_up_ne _ _ (hp_neN f71 nq22)).trans f73)
  have f75 : g35 q1 = some (.inl (cA 1, 13, .inl (fun _ => 0))) := (by rw [eg35]; exact (hp_up_ne _ _ (hp_neAO f74 f34)).trans f74)
  have f76 : g38 q1 = some (.inl (cA 1, 13, .inl (fun _ => 0))) := (by rw [eg38]; exact (hp_up_ne _ _ (hp_neN f75 nq37)).trans f75)
  have f77 : g44 q1 = some (.inl (cA 1, 13, .inl (fun _ => 0))) := (by rw [eg44]; exact (hp_up_ne _ _ (hp_neN f76 nk43)).trans f76)
  have f78 : u40 q1 = some (.inl (cA 1, 13, .inl (fun _ => 0))) := (by rw [eu40]; exact (hp_up_ne _ _ (hp_neN f75 nq37)).trans f77)
  have f79 : g50 q1 = some (.inl (cA 1, 13, .inl (fun _ => 0))) := (by rw [eg50]; exact (hp_up_ne _ _ (hp_neAO f78 f49)).trans f78)
  have f80 : u10 k13 = some (.inl (cA 2, 24, .inr (.inl (fun _ => 0)))) := (by rw [eu10]; exact (hp_up_ne _ _ ((Ne.symm (hp_neN f9 nk13)))).trans f15)
  have f81 : g20 k13 = some (.inl (cA 2, 24, .inr (.inl (fun _ => 0)))) := (by rw [eg20]; exact (hp_up_ne _ _ (hp_neAO f80 f19)).trans f80)
  have f82 : g23 k13 = some (.inl (cA 2, 24, .inr (.inl (fun _ => 0)))) := (by rw [eg23]; exact (hp_up_ne _ _ (hp_neN f81 nq22)).trans f81)
  have f83 : g29 k13 = some (.inl (cA 2, 24, .inr (.inl (fun _ => 0)))) := (by rw [eg29]; exact (hp_up_ne _ _ (hp_neN f82 nk28)).trans f82)
  have f84 : u25 k13 = some (.inl (cA 2, 24, .inr (.inl (fun _ => 0)))) := (by rw [eu25]; exact (hp_up_ne _ _ (hp_neN f81 nq22)).trans f83)
  have f85 : g35 k13 = some (.inl (cA 2, 24, .inr (.inl (fun _ => 0)))) := (by rw [eg35]; exact (hp_up_ne _ _ (hp_neAO f84 f34)).trans f84)
  have f86 : g38 k13 = some (.inl (cA 2, 24, .inr (.inl (fun _ => 0)))) := (by rw [eg38]; exact (hp_up_ne _ _ (hp_neN f85 nq37)).trans f85)
  have f87 : g44 k13 = some (.inl (cA 2, 24, .inr (.inl (fun _ => 0)))) := (by rw [eg44]; exact (hp_up_ne _ _ (hp_neN f86 nk43)).trans f86)
  have f88 : u40 k13 = some (.inl (cA 2, 24, .inr (.inl (fun _ => 0)))) := (by rw [eu40]; exact (hp_up_ne _ _ (hp_neN f85 nq37)).trans f87)
  have f89 : g50 k13 = some (.inl (cA 2, 24, .inr (.inl (fun _ => 0)))) := (by rw [eg50]; exact (hp_up_ne _ _ (hp_neAO f88 f49)).trans f88)
  have f90 : u25 k28 = some (.inl (cA 2, 16, .inr (.inl (fun _ => 0)))) := (by rw [eu25]; exact (hp_up_ne _ _ ((Ne.symm (hp_neN f24 nk28)))).trans f30)
  have f91 : g35 k28 = some (.inl (cA 2, 16, .inr (.inl (fun _ => 0)))) := (by rw [eg35]; exact (hp_up_ne _ _ (hp_neAO f90 f34)).trans f90)
  have f92 : g38 k28 = some (.inl (cA 2, 16, .inr (.inl (fun _ => 0)))) := (by rw [eg38]; exact (hp_up_ne _ _ (hp_neN f91 nq37)).trans f91)
  have f93 : g44 k28 = some (.inl (cA 2, 16, .inr (.inl (fun _ => 0)))) := (by rw [eg44]; exact (hp_up_ne _ _ (hp_neN f92 nk43)).trans f92)
  have f94 : u40 k28 = some (.inl (cA 2, 16, .inr (.inl (fun _ => 0)))) := (by rw [eu40]; exact (hp_up_ne _ _ (hp_neN f91 nq37)).trans f93)
  have f95 : g50 k28 = some (.inl (cA 2, 16, .inr (.inl (fun _ => 0)))) := (by rw [eg50]; exact (hp_up_ne _ _ (hp_neAO f94 f49)).trans f94)
  have f96 : u40 k43 = some (.inl (cA 2, 16, .inr (.inl (fun _ => 0)))) := (by rw [eu40]; exact (hp_up_ne _ _ ((Ne.symm (hp_neN f39 nk43)))).trans f45)
  have f97 : g50 k43 = some (.inl (cA 2, 16, .inr (.inl (fun _ => 0)))) := (by rw [eg50]; exact (hp_up_ne _ _ (hp_neAO f96 f49)).trans f96)
  have ne0_1 : h ≠ q1 := hp_neOA f51 f79
  have ne0_2 : h ≠ q7 := hp_neK f51 f60 (by decide)
  have ne0_3 : h ≠ k13 := hp_neOA f51 f89
  have ne0_4 : h ≠ q22 := hp_neK f51 f65 (by decide)
  have ne0_5 : h ≠ k28 := hp_neOA f51 f95
  have ne0_6 : h ≠ q37 := hp_neK f51 f66 (by decide)
  have ne0_7 : h ≠ k43 := hp_neOA f51 f97
  have ne1_2 : q1 ≠ q7 := hp_neAO f79 f60
  have ne1_3 : q1 ≠ k13 := hp_neAA01 f79 f89
  have ne1_4 : q1 ≠ q22 := hp_neAO f79 f65
  have ne1_5 : q1 ≠ k28 := hp_neAA01 f79 f95
  have ne1_6 : q1 ≠ q37 := hp_neAO f79 f66
  have ne1_7 : q1 ≠ k43 := hp_neAA01 f79 f97
  have ne2_3 : q7 ≠ k13 := hp_neOA f60 f89
  have ne2_4 : q7 ≠ q22 := hp_neN f52 nq22
  have ne2_5 : q7 ≠ k28 := hp_neOA f60 f95
  have ne2_6 : q7 ≠ q37 := hp_neN f56 nq37
  have ne2_7 : q7 ≠ k43 := hp_neOA f60 f97
  have ne3_4 : k13 ≠ q22 := hp_neAO f89 f65
  have ne3_5 : k13 ≠ k28 := hp_neLen f89 f95 (show (24 : Nat) ≠ 16 by decide)
  have ne3_6 : k13 ≠ q37 := hp_neAO f89 f66
  have ne3_7 : k13 ≠ k43 := hp_neLen f89 f97 (show (24 : Nat) ≠ 16 by decide)
  have ne4_5 : q22 ≠ k28 := hp_neOA f65 f95
  have ne4_6 : q22 ≠ q37 := hp_neN f61 nq37
  have ne4_7 : q22 ≠ k43 := hp_neOA f65 f97
  have ne5_6 : k28 ≠ q37 := hp_neAO f95 f66
  have ne5_7 : k28 ≠ k43 := hp_neN f92 nk43
  have ne6_7 : q37 ≠ k43 := hp_neOA f66 f97
  have his : pl_is 8 (K_Unit cA) g50 (fun j => match j with | 0 => h | 1 => q1 | 2 => q7 | 3 => k13 | 4 => q22 | 5 => k28 | 6 => q37 | _ => k43) := by
    intro j hj
    rcases (show j = 0 ∨ j = 1 ∨ j = 2 ∨ j = 3 ∨ j = 4 ∨ j = 5 ∨ j = 6 ∨ j = 7 by omega) with rfl | rfl | rfl | rfl | rfl | rfl | rfl | rfl
    · exact f51
    · exact f79
    · exact f60
    · exact f89
    · exact f65
    · exact f95
    · exact f66
    · exact f97
  have hnw : ∀ j, 0 < j → j < 8 → g ((fun j => match j with | 0 => h | 1 => q1 | 2 => q7 | 3 => k13 | 4 => q22 | 5 => k28 | 6 => q37 | _ => k43) j) = none := by
    intro j h0 hj
    rcases (show j = 1 ∨ j = 2 ∨ j = 3 ∨ j = 4 ∨ j = 5 ∨ j = 6 ∨ j = 7 by omega) with rfl | rfl | rfl | rfl | rfl | rfl | rfl
    · exact nq1
    · exact hp_up_none eg2 (hp_up_none eg5 (nq7))
    · exact hp_up_none eg2 (hp_up_none eg5 (hp_up_none eg8 (nk13)))
    · exact hp_up_none eg2 (hp_up_none eg5 (hp_up_none eg8 (hp_up_none eg14 (hp_up_none eu10 (hp_up_none eg20 (nq22))))))
    · exact hp_up_none eg2 (hp_up_none eg5 (hp_up_none eg8 (hp_up_none eg14 (hp_up_none eu10 (hp_up_none eg20 (hp_up_none eg23 (nk28)))))))
    · exact hp_up_none eg2 (hp_up_none eg5 (hp_up_none eg8 (hp_up_none eg14 (hp_up_none eu10 (hp_up_none eg20 (hp_up_none eg23 (hp_up_none eg29 (hp_up_none eu25 (hp_up_none eg35 (nq37))))))))))
    · exact hp_up_none eg2 (hp_up_none eg5 (hp_up_none eg8 (hp_up_none eg14 (hp_up_none eu10 (hp_up_none eg20 (hp_up_none eg23 (hp_up_none eg29 (hp_up_none eu25 (hp_up_none eg35 (hp_up_none eg38 (nk43)))))))))))
  have hij : pl_inj 8 (fun j => match j with | 0 => h | 1 => q1 | 2 => q7 | 3 => k13 | 4 => q22 | 5 => k28 | 6 => q37 | _ => k43) := by
    intro i j hi hj he
    rcases (show i = 0 ∨ i = 1 ∨ i = 2 ∨ i = 3 ∨ i = 4 ∨ i = 5 ∨ i = 6 ∨ i = 7 by omega) with rfl | rfl | rfl | rfl | rfl | rfl | rfl | rfl <;> rcases (show j = 0 ∨ j = 1 ∨ j = 2 ∨ j = 3 ∨ j = 4 ∨ j = 5 ∨ j = 6 ∨ j = 7 by omega) with rfl | rfl | rfl | rfl | rfl | rfl | rfl | rfl
    · rfl
    · exact absurd he ne0_1
    · exact absurd he ne0_2
    · exact absurd he ne0_3
    · exact absurd he ne0_4
    · exact absurd he ne0_5
    · exact absurd he ne0_6
    · exact absurd he ne0_7
    · exact absurd he.symm ne0_1
    · rfl
    · exact absurd he ne1_2
    · exact absurd he ne1_3
    · exact absurd he ne1_4
    · exact absurd he ne1_5
    · exact absurd he ne1_6
    · exact absurd he ne1_7
    · exact absurd he.symm ne0_2
    · exact absurd he.symm ne1_2
    · rfl
    · exact absurd he ne2_3
    · exact absurd he ne2_4
    · exact absurd he ne2_5
    · exact absurd he ne2_6
    · exact absurd he ne2_7
    · exact absurd he.symm ne0_3
    · exact absurd he.symm ne1_3
    · exact absurd he.symm ne2_3
    · rfl
    · exact absurd he ne3_4
    · exact absurd he ne3_5
    · exact absurd he ne3_6
    · exact absurd he ne3_7
    · exact absurd he.symm ne0_4
    · exact absurd he.symm ne1_4
    · exact absurd he.symm ne2_4
    · exact absurd he.symm ne3_4
    · rfl
    · exact absurd he ne4_5
    · exact absurd he ne4_6
    · exact absurd he ne4_7
    · exact absurd he.symm ne0_5
    · exact absurd he.symm ne1_5
    · exact absurd he.symm ne2_5
    · exact absurd he.symm ne3_5
    · exact absurd he.symm ne4_5
    · rfl
    · exact absurd he ne5_6
    · exact absurd he ne5_7
    · exact absurd he.symm ne0_6
    · exact absurd he.symm ne1_6
    · exact absurd he.symm ne2_6
    · exact absurd he.symm ne3_6
    · exact absurd he.symm ne4_6
    · exact absurd he.symm ne5_6
    · rfl
    · exact absurd he ne6_7
    · exact absurd he.symm ne0_7
    · exact absurd he.symm ne1_7
    · exact absurd he.symm ne2_7
    · exact absurd he.symm ne3_7
    · exact absurd he.symm ne4_7
    · exact absurd he.symm ne5_7
    · exact absurd he.symm ne6_7
    · rfl
  have hxt : hp_extX h g g50 := by
    intro b e hb hg
    have xg2 : g2 b = some e := by rw [eg2]; exact (hp_up_ne _ _ (hp_neN hg nq1)).trans hg
    have xg5 : g5 b = some e := by rw [eg5]; exact (hp_up_ne _ _ (hb)).trans xg2
    have xg8 : g8 b = some e := by rw [eg8]; exact (hp_up_ne _ _ (hp_neN xg5 nq7)).trans xg5
    have xg14 : g14 b = some e := by rw [eg14]; exact (hp_up_ne _ _ (hp_neN xg8 nk13)).trans xg8
    have xu10 : u10 b = some e := by rw [eu10]; exact (hp_up_ne _ _ (hp_neN hg (hp_up_none eg2 (hp_up_none eg5 (nq7))))).trans xg14
    have xg20 : g20 b = some e := by rw [eg20]; exact (hp_up_ne _ _ (hb)).trans xu10
    have xg23 : g23 b = some e := by rw [eg23]; exact (hp_up_ne _ _ (hp_neN xg20 nq22)).trans xg20
    have xg29 : g29 b = some e := by rw [eg29]; exact (hp_up_ne _ _ (hp_neN xg23 nk28)).trans xg23
    have xu25 : u25 b = some e := by rw [eu25]; exact (hp_up_ne _ _ (hp_neN hg (hp_up_none eg2 (hp_up_none eg5 (hp_up_none eg8 (hp_up_none eg14 (hp_up_none eu10 (hp_up_none eg20 (nq22))))))))).trans xg29
    have xg35 : g35 b = some e := by rw [eg35]; exact (hp_up_ne _ _ (hb)).trans xu25
    have xg38 : g38 b = some e := by rw [eg38]; exact (hp_up_ne _ _ (hp_neN xg35 nq37)).trans xg35
    have xg44 : g44 b = some e := by rw [eg44]; exact (hp_up_ne _ _ (hp_neN xg38 nk43)).trans xg38
    have xu40 : u40 b = some e := by rw [eu40]; exact (hp_up_ne _ _ (hp_neN hg (hp_up_none eg2 (hp_up_none eg5 (hp_up_none eg8 (hp_up_none eg14 (hp_up_none eu10 (hp_up_none eg20 (hp_up_none eg23 (hp_up_none eg29 (hp_up_none eu25 (hp_up_none eg35 (nq37))))))))))))).trans xg44
    have xg50 : g50 b = some e := by rw [eg50]; exact (hp_up_ne _ _ (hb)).trans xu40
    exact xg50
  exact hp_vret cx hw (⟨(fun j => match j with | 0 => h | 1 => q1 | 2 => q7 | 3 => k13 | 4 => q22 | 5 => k28 | 6 => q37 | _ => k43), rfl, his, hnw, hij, hxt⟩) dX9_init_51

theorem m_X7_init_oi : Cond.methodLink RX7 3 objectInit ∈ wsX7_init := by decide +kernel
theorem m_X7_init_oj : Cond.instanceMethod objectInit ∈ wsX7_init := by decide +kernel
theorem m_X7_init_ok : Cond.code objectInit ⟨#[0xb1]⟩ 1 none ∈ wsX7_init := by decide +kernel
theorem m_X7_init_a1 : Cond.arrayClass .int ∈ wsX7_init := by decide +kernel
theorem m_X7_init_f9 : Cond.fieldLink RX7 9 "WardenHouse$Strand" "units" "[I" ∈ wsX7_init := by decide +kernel
set_option maxRecDepth 20000 in
theorem i_X7_init_X7 : ∀ w ∈ wsX70, w ∈ wsX7_init := by decide +kernel
theorem m_X7_init_f15 : Cond.fieldLink RX7 15 "WardenHouse$Strand" "places" "[I" ∈ wsX7_init := by decide +kernel
theorem m_X7_init_f18 : Cond.fieldLink RX7 18 "WardenHouse$Strand" "bases" "[I" ∈ wsX7_init := by decide +kernel
theorem m_X7_init_f21 : Cond.fieldLink RX7 21 "WardenHouse$Strand" "bottoms" "[I" ∈ wsX7_init := by decide +kernel
theorem m_X7_init_f24 : Cond.fieldLink RX7 24 "WardenHouse$Strand" "nodes" "[I" ∈ wsX7_init := by decide +kernel
theorem m_X7_init_f27 : Cond.fieldLink RX7 27 "WardenHouse$Strand" "contexts" "[I" ∈ wsX7_init := by decide +kernel
theorem m_X7_init_k30 : Cond.classLink RX7 30 RX6 ∈ wsX7_init := by decide +kernel
theorem m_X7_init_n6 : Cond.instantiable RX6 2 ∈ wsX7_init := by decide +kernel
theorem m_X7_init_z6 : Cond.initialized RX6 ∈ wsX7_init := by decide +kernel
set_option maxRecDepth 20000 in
theorem i_X7_init_X6 : ∀ w ∈ wsX60, w ∈ wsX7_init := by decide +kernel
theorem m_X7_init_l32 : Cond.methodLink RX7 32 yX6_init ∈ wsX7_init := by decide +kernel
theorem m_X7_init_j32 : Cond.instanceMethod yX6_init ∈ wsX7_init := by decide +kernel
theorem m_X7_init_f35 : Cond.fieldLink RX7 35 "WardenHouse$Strand" "stack" "LWardenHouse$Row;" ∈ wsX7_init := by decide +kernel
set_option maxHeartbeats 4000000 in
set_option maxRecDepth 100000 in
/-- Strand() -/
theorem k_Strand_init (l : Launch) (D : va_G) (cA : Nat → ClassId) (E : hp_N) (sz : Nat) (g : hp_M) (h : Nat) (hh : g h = some (.inr (7, [.null, .null, .null, .null, .null, .null, .null, .int 0, .int 0, .int 0, .int 0, .int 0, .long 0, .int 0, .null, .int 0, .int 0, .int 0]))) : Met l yX7_init wsX7_init ({ frames := 2, cells := 8, slots := 394, locals := 33 }) (hp_Pc D vwCl (hp_Tl cA) E sz g [.ref h]) (hp_Qv D vwCl (hp_Tl cA) sz g (pl_made 9 (K_Strand cA) h g)) 8 394 (hp_A g sz) := by
  refine hp_ofW (cc := cX7_init) (maxL := 1) (ret := none) (by decide) rfl (Nat.le_of_ble_eq_true rfl) ?_
  intro pp ee ss mm bb mt cd ls cx hsz hw hl
  have hl : lv_has ls 1 [(0, .ref h)] := hl
  refine lv_aload_n cx.1 cx.2.1 dX7_init_0 rfl (lv_at hl 0 rfl) ?_
  refine W.objInit cx.1 cx.2.1 cx.2.2.2.2.1 (cx.2.2.2.2.2.1 _ m_X7_init_oi) (cx.2.2.2.2.2.1 _ m_X7_init_oj) (cx.2.2.2.2.2.1 _ m_X7_init_ok) rfl (by rw [cx.2.2.2.1]; exact hl.1) rfl dX7_init_1 (Nat.le_of_ble_eq_true rfl) (Nat.le_of_ble_eq_true rfl) ?_
  refine W.eq (g2 := F0 mm 4 ls []) rfl ?_
  refine lv_aload_n cx.1 cx.2.1 dX7_init_4 rfl (lv_at hl 0 rfl) ?_
  refine lv_bipush (v := 60) cx.1 cx.2.1 dX7_init_5 (by decide) ?_
  refine hp_newa (atype := .int) (N' := 60) (a0 := (60, .inl (fun _ => 0))) cx hw m_X7_init_a1 1 (ty := .int) rfl rfl (fun _ => rfl) (by decide) (by decide) (by decide) (by exact Nat.le_of_ble_eq_true rfl) (by exact Nat.le_of_ble_eq_true rfl) dX7_init_7 (fun q1 g2 H nq1 eg2 hw => ?_)
  have f3 : g2 q1 = some (.inl (cA 1, 60, .inl (fun _ => 0))) := (by rw [eg2]; exact hp_up_self _ _ _)
  have f4 : g2 h = some (.inr (7, [.null, .null, .null, .null, .null, .null, .null, .int 0, .int 0, .int 0, .int 0, .int 0, .long 0, .int 0, .null, .int 0, .int 0, .int 0])) := (by rw [eg2]; exact (hp_up_ne _ _ (hp_neN hh nq1)).trans hh)
  refine hp_putF (C := RX7) (T := TX7) (N := 18) (ci := 7) (fs' := [.ref q1, .null, .null, .null, .null, .null, .null, .int 0, .int 0, .int 0, .int 0, .int 0, .long 0, .int 0, .null, .int 0, .int 0, .int 0]) cx hw i_X7_init_X7 tyX7_ok nmX7 rfl f4 0 (by decide) m_X7_init_f9 rfl rfl rfl rfl rfl (Nat.le_of_ble_eq_true rfl) rfl dX7_init_9 (fun g5 H locs eg5 hw => ?_)
  have f6 : g5 h = some (.inr (7, [.ref q1, .null, .null, .null, .null, .null, .null, .int 0, .int 0, .int 0, .int 0, .int 0, .long 0, .int 0, .null, .int 0, .int 0, .int 0])) := (by rw [eg5]; exact hp_up_self _ _ _)
  refine lv_aload_n cx.1 cx.2.1 dX7_init_12 rfl (lv_at hl 0 rfl) ?_
  refine lv_bipush (v := 60) cx.1 cx.2.1 dX7_init_13 (by decide) ?_
  refine hp_newa (atype := .int) (N' := 60) (a0 := (60, .inl (fun _ => 0))) cx hw m_X7_init_a1 1 (ty := .int) rfl rfl (fun _ => rfl) (by decide) (by decide) (by decide) (by exact Nat.le_of_ble_eq_true rfl) (by exact Nat.le_of_ble_eq_true rfl) dX7_init_15 (fun q7 g8 H nq7 eg8 hw => ?_)
  have f9 : g8 q7 = some (.inl (cA 1, 60, .inl (fun _ => 0))) := (by rw [eg8]; exact hp_up_self _ _ _)
  have f10 : g8 h = some (.inr (7, [.ref q1, .null, .null, .null, .null, .null, .null, .int 0, .int 0, .int 0, .int 0, .int 0, .long 0, .int 0, .null, .int 0, .int 0, .int 0])) := (by rw [eg8]; exact (hp_up_ne _ _ (hp_neN f6 nq7)).trans f6)
  refine hp_putF (C := RX7) (T := TX7) (N := 18) (ci := 7) (fs' := [.ref q1, .ref q7, .null, .null, .null, .null, .null, .int 0, .int 0, .int 0, .int 0, .int 0, .long 0, .int 0, .null, .int 0, .int 0, .int 0]) cx hw i_X7_init_X7 tyX7_ok nmX7 rfl f10 1 (by decide) m_X7_init_f15 rfl rfl rfl rfl rfl (Nat.le_of_ble_eq_true rfl) rfl dX7_init_17 (fun g11 H locs eg11 hw => ?_)
  have f12 : g11 h = some (.inr (7, [.ref q1, .ref q7, .null, .null, .null, .null, .null, .int 0, .int 0, .int 0, .int 0, .int 0, .long 0, .int 0, .null, .int 0, .int 0, .int 0])) := (by rw [eg11]; exact hp_up_self _ _ _)
  refine lv_aload_n cx.1 cx.2.1 dX7_init_20 rfl (lv_at hl 0 rfl) ?_
  refine lv_bipush (v := 60) cx.1 cx.2.1 dX7_init_21 (by decide) ?_
  refine hp_newa (atype := .int) (N' := 60) (a0 := (60, .inl (fun _ => 0))) cx hw m_X7_init_a1 1 (ty := .int) rfl rfl (fun _ => rfl) (by decide) (by decide) (by decide) (by exact Nat.le_of_ble_eq_true rfl) (by exact Nat.le_of_ble_eq_true rfl) dX7_init_23 (fun q13 g14 H nq13 eg14 hw => ?_)
  have f15 : g14 q13 = some (.inl (cA 1, 60, .inl (fun _ => 0))) := (by rw [eg14]; exact hp_up_self _ _ _)
  have f16 : g14 h = some (.inr (7, [.ref q1, .ref q7, .null, .null, .null, .null, .null, .int 0, .int 0, .int 0, .int 0, .int 0, .long 0, .int 0, .null, .int 0, .int 0, .int 0])) := (by rw [eg14]; exact (hp_up_ne _ _ (hp_neN f12 nq13)).trans f12)
  refine hp_putF (C := RX7) (T := TX7) (N := 18) (ci := 7) (fs' := [.ref q1, .ref q7, .ref q13, .null, .null, .null, .null, .int 0, .int 0, .int 0, .int 0, .int 0, .long 0, .int 0, .null, .int 0, .int 0, .int 0]) cx hw i_X7_init_X7 tyX7_ok nmX7 rfl f16 2 (by decide) m_X7_init_f18 rfl rfl rfl rfl rfl (Nat.le_of_ble_eq_true rfl) rfl dX7_init_25 (fun g17 H locs eg17 hw => ?_)
  have f18 : g17 h = some (.inr (7, [.ref q1, .ref q7, .ref q13, .null, .null, .null, .null, .int 0, .int 0, .int 0, .int 0, .int 0, .long 0, .int 0, .null, .int 0, .int 0, .int 0])) := (by rw [eg17]; exact hp_up_self _ _ _)
  refine lv_aload_n cx.1 cx.2.1 dX7_init_28 rfl (lv_at hl 0 rfl) ?_
  refine lv_bipush (v := 60) cx.1 cx.2.1 dX7_init_29 (by decide) ?_
  refine hp_newa (atype := .int) (N' := 60) (a0 := (60, .inl (fun _ => 0))) cx hw m_X7_init_a1 1 (ty := .int) rfl rfl (fun _ => rfl) (by decide) (by decide) (by decide) (by exact Nat.le_of_ble_eq_true rfl) (by exact Nat.le_of_ble_eq_true rfl) dX7_init_31 (fun q19 g20 H nq19 eg20 hw => ?_)
  have f21 : g20 q19 = some (.inl (cA 1, 60, .inl (fun _ => 0))) := (by rw [eg20]; exact hp_up_self _ _ _)
  have f22 : g20 h = some (.inr (7, [.ref q1, .ref q7, .ref q13, .null, .null, .null, .null, .int 0, .int 0, .int 0, .int 0, .int 0, .long 0, .int 0, .null, .int 0, .int 0, .int 0])) := (by rw [eg20]; exact (hp_up_ne _ _ (hp_neN f18 nq19)).trans f18)
  refine hp_putF (C := RX7) (T := TX7) (N := 18) (ci := 7) (fs' := [.ref q1, .ref q7, .ref q13, .ref q19, .null, .null, .null, .int 0, .int 0, .int 0, .int 0, .int 0, .long 0, .int 0, .null, .int 0, .int 0, .int 0]) cx hw i_X7_init_X7 tyX7_ok nmX7 rfl f22 3 (by decide) m_X7_init_f21 rfl rfl rfl rfl rfl (Nat.le_of_ble_eq_true rfl) rfl dX7_init_33 (fun g23 H locs eg23 hw => ?_)
  have f24 : g23 h = some (.inr (7, [.ref q1, .ref q7, .ref q13, .ref q19, .null, .null, .null, .int 0, .int 0, .int 0, .int 0, .int 0, .long 0, .int 0, .null, .int 0, .int 0, .int 0])) := (by rw [eg23]; exact hp_up_self _ _ _)
  refine lv_aload_n cx.1 cx.2.1 dX7_init_36 rfl (lv_at hl 0 rfl) ?_
  refine lv_bipush (v := 60) cx.1 cx.2.1 dX7_init_37 (by decide) ?_
  refine hp_newa (atype := .int) (N' := 60) (a0 := (60, .inl (fun _ => 0))) cx hw m_X7_init_a1 1 (ty := .int) rfl rfl (fun _ => rfl) (by decide) (by decide) (by decide) (by exact Nat.le_of_ble_eq_true rfl) (by exact Nat.le_of_ble_eq_true rfl) dX7_init_39 (fun q25 g26 H nq25 eg26 hw => ?_)
  have f27 : g26 q25 = some (.inl (cA 1, 60, .inl (fun _ => 0))) := (by rw [eg26]; exact hp_up_self _ _ _)
  have f28 : g26 h = some (.inr (7, [.ref q1, .ref q7, .ref q13, .ref q19, .null, .null, .null, .int 0, .int 0, .int 0, .int 0, .int 0, .long 0, .int 0, .null, .int 0, .int 0, .int 0])) := (by rw [eg26]; exact (hp_up_ne _ _ (hp_neN f24 nq25)).trans f24)
  refine hp_putF (C := RX7) (T := TX7) (N := 18) (ci := 7) (fs' := [.ref q1, .ref q7, .ref q13, .ref q19, .ref q25, .null, .null, .int 0, .int 0, .int 0, .int 0, .int 0, .long 0, .int 0, .null, .int 0, .int 0, .int 0]) cx hw i_X7_init_X7 tyX7_ok nmX7 rfl f28 4 (by decide) m_X7_init_f24 rfl rfl rfl rfl rfl (Nat.le_of_ble_eq_true rfl) rfl dX7_init_41 (fun g29 H locs eg29 hw => ?_)
  have f30 : g29 h = some (.inr (7, [.ref q1, .ref q7, .ref q13, .ref q19, .ref q25, .null, .null, .int 0, .int 0, .int 0, .int 0, .int 0, .long 0, .int 0, .null, .int 0, .int 0, .int 0])) := (by rw [eg29]; exact hp_up_self _ _ _)
  refine lv_aload_n cx.1 cx.2.1 dX7_init_44 rfl (lv_at hl 0 rfl) ?_
  refine lv_bipush (v := 60) cx.1 cx.2.1 dX7_init_45 (by decide) ?_
  refine hp_newa (atype := .int) (N' := 60) (a0 := (60, .inl (fun _ => 0))) cx hw m_X7_init_a1 1 (ty := .int) rfl rfl (fun _ => rfl) (by decide) (by decide) (by decide) (by exact Nat.le_of_ble_eq_true rfl) (by exact Nat.le_of_ble_eq_true rfl) dX7_init_47 (fun q31 g32 H nq31 eg32 hw => ?_)
  have f33 : g32 q31 = some (.inl (cA 1, 60, .inl (fun _ => 0))) := (by rw [eg32]; exact hp_up_self _ _ _)
  have f34 : g32 h = some (.inr (7, [.ref q1, .ref q7, .ref q13, .ref q19, .ref q25, .null, .null, .int 0, .int 0, .int 0, .int 0, .int 0, .long 0, .int 0, .null, .int 0, .int 0, .int 0])) := (by rw [eg32]; exact (hp_up_ne _ _ (hp_neN f30 nq31)).trans f30)
  refine hp_putF (C := RX7) (T := TX7) (N := 18) (ci := 7) (fs' := [.ref q1, .ref q7, .ref q13, .ref q19, .ref q25, .ref q31, .null, .int 0, .int 0, .int 0, .int 0, .int 0, .long 0, .int 0, .null, .int 0, .int 0, .int 0]) cx hw i_X7_init_X7 tyX7_ok nmX7 rfl f34 5 (by decide) m_X7_init_f27 rfl rfl rfl rfl rfl (Nat.le_of_ble_eq_true rfl) rfl dX7_init_49 (fun g35 H locs eg35 hw => ?_)
  have f36 : g35 h = some (.inr (7, [.ref q1, .ref q7, .ref q13, .ref q19, .ref q25, .ref q31, .null, .int 0, .int 0, .int 0, .int 0, .int 0, .long 0, .int 0, .null, .int 0, .int 0, .int 0])) := (by rw [eg35]; exact hp_up_self _ _ _)
  refine lv_aload_n cx.1 cx.2.1 dX7_init_52 rfl (lv_at hl 0 rfl) ?_
  refine hp_new (C := RX6) (T := TX6) (N := 2) (ci := 6) (fs := [.null, .int 0]) cx hw i_X7_init_X6 tyX6_ok rfl m_X7_init_k30 m_X7_init_n6 m_X7_init_z6 nwX6 (by exact Nat.le_of_ble_eq_true rfl) (by exact Nat.le_of_ble_eq_true rfl) dX7_init_53 (fun q37 g38 H nq37 eg38 hw => ?_)
  have f39 : g38 q37 = some (.inr (6, [.null, .int 0])) := (by rw [eg38]; exact hp_up_self _ _ _)
  refine lv_dup cx.1 cx.2.1 dX7_init_56 rfl ?_
  refine lv_bipush (v := 32) cx.1 cx.2.1 dX7_init_57 (by decide) ?_
  refine hp_callIv (As := [.int 32]) (rest := [.ref q37, .ref h]) cx hw (k_Row_init l D cA E H.size g38 q37 0 32 32 f39 (by decide) (by decide) (by decide)) (cwI 1 cx.2.2.2.2.2.1 gX7_init_X6_init rfl rfl rfl (cx.2.2.2.2.2.1 _ m_X7_init_z6) (cx.2.2.2.2.2.1 _ m_X7_init_l32) (cx.2.2.2.2.2.1 _ m_X7_init_j32) rfl (by decide +kernel) ⟨Nat.le_of_ble_eq_true rfl, Nat.le_of_ble_eq_true rfl⟩) rfl hl.1 rfl (Nat.le_of_ble_eq_true rfl) dX7_init_59 ⟨Nat.le_of_ble_eq_true rfl, Nat.le_of_ble_eq_true rfl⟩ (fun u40 H locs hp42 hw => ?_)
  obtain ⟨k43, g44, nk43, eg44, eu40⟩ := hp42
  have f45 : g44 k43 = some (.inl (cA 2, 32, .inr (.inl (fun _ => 0)))) := (by rw [eg44]; exact hp_up_self _ _ _)
  have f46 : u40 q37 = some (.inr (6, [.ref k43, .int 0])) := (by rw [eu40]; exact hp_up_self _ _ _)
  have f47 : g38 h = some (.inr (7, [.ref q1, .ref q7, .ref q13, .ref q19, .ref q25, .ref q31, .null, .int 0, .int 0, .int 0, .int 0, .int 0, .long 0, .int 0, .null, .int 0, .int 0, .int 0])) := (by rw [eg38]; exact (hp_up_ne _ _ (hp_neN f36 nq37)).trans f36)
  have f48 : g44 h = some (.inr (7, [.ref q1, .ref q7, .ref q13, .ref q19, .ref q25, .ref q31, .null, .int 0, .int 0, .int 0, .int 0, .int 0, .long 0, .int 0, .null, .int 0, .int 0, .int 0])) := (by rw [eg44]; exact (hp_up_ne _ _ (hp_neN f47 nk43)).trans f47)
  have f49 : u40 h = some (.inr (7, [.ref q1, .ref q7, .ref q13, .ref q19, .ref q25, .ref q31, .null, .int 0, .int 0, .int 0, .int 0, .int 0, .long 0, .int 0, .null, .int 0, .int 0, .int 0])) := (by rw [eu40]; exact (hp_up_ne _ _ (hp_neN f36 nq37)).trans f48)
  refine hp_putF (C := RX7) (T := TX7) (N := 18) (ci := 7) (fs' := [.ref q1, .ref q7, .ref q13, .ref q19, .ref q25, .ref q31, .ref q37, .int 0, .int 0, .int 0, .int 0, .int 0, .long 0, .int 0, .null, .int 0, .int 0, .int 0]) cx hw i_X7_init_X7 tyX7_ok nmX7 rfl f49 6 (by decide) m_X7_init_f35 rfl rfl rfl rfl rfl (Nat.le_of_ble_eq_true rfl) rfl dX7_init_62 (fun g50 H locs eg50 hw => ?_)
  have f51 : g50 h = some (.inr (7, [.ref q1, .ref q7, .ref q13, .ref q19, .ref q25, .ref q31, .ref q37, .int 0, .int 0, .int 0, .int 0, .int 0, .long 0, .int 0, .null, .int 0, .int 0, .int 0])) := (by rw [eg50]; exact hp_up_self _ _ _)
  have f52 : g50 q37 = some (.inr (6, [.ref k43, .int 0])) := (by rw [eg50]; exact (hp_up_ne _ _ (hp_neK f46 f49 (by decide))).trans f46)
  have f53 : g5 q1 = some (.inl (cA 1, 60, .inl (fun _ => 0))) := (by rw [eg5]; exact (hp_up_ne _ _ (hp_neAO f3 f4)).trans f3)
  have f54 : g8 q1 = some (.inl (cA 1, 60, .inl (fun _ => 0))) := (by rw [eg8]; exact (hp_up_ne _ _ (hp_neN f53 nq7)).trans f53)
  have f55 : g11 q1 = some (.inl (cA 1, 60, .inl (fun _ => 0))) := (by rw [eg11]; exact (hp_up_ne _ _ (hp_neAO f54 f10)).trans f54)
  have f56 : g14 q1 = some (.inl (cA 1, 60, .inl (fun _ => 0))) := (by rw [eg14]; exact (hp_up_ne _ _ (hp_neN f55 nq13)).trans f55)
  have f57 : g17 q1 = some (.inl (cA 1, 60, .inl (fun _ => 0))) := (by rw [eg17]; exact (hp_up_ne _ _ (hp_neAO f56 f16)).trans f56)
  have f58 : g20 q1 = some (.inl (cA 1, 60, .inl (fun _ => 0))) := (by rw [eg20]; exact (hp_up_ne _ _ (hp_neN f57 nq19)).trans f57)
  have f59 : g23 q1 = some (.inl (cA 1, 60, .inl (fun _ => 0))) := (by rw [eg23]; exact (hp_up_ne _ _ (hp_neAO f58 f22)).trans f58)
  have f60 : g26 q1 = some (.inl (cA 1, 60, .inl (fun _ => 0))) := (by rw [eg26]; exact (hp_up_ne _ _ (hp_neN f59 nq25)).trans f59)
  have f61 : g29 q1 = some (.inl (cA 1, 60, .inl (fun _ => 0))) := (by rw [eg29]; exact (hp_up_ne _ _ (hp_neAO f60 f28)).trans f60)
  have f62 : g32 q1 = some (.inl (cA 1, 60, .inl (fun _ => 0))) := (by rw [eg32]; exact (hp_up_ne _ _ (hp_neN f61 nq31)).trans f61)
  have f63 : g35 q1 = some (.inl (cA 1, 60, .inl (fun _ => 0))) := (by rw [eg35]; exact (hp_up_ne _ _ (hp_neAO f62 f34)).trans f62)
  have f64 : g38 q1 = some (.inl (cA 1, 60, .inl (fun _ => 0))) := (by rw [eg38]; exact (hp_up_ne _ _ (hp_neN f63 nq37)).trans f63)
  have f65 : g44 q1 = some (.inl (cA 1, 60, .inl (fun _ => 0))) := (by rw [eg44]; exact (hp_up_ne _ _ (hp_neN f64 nk43)).trans f64)
  have f66 : u40 q1 = some (.inl (cA 1, 60, .inl (fun _ => 0))) := (by rw [eu40]; exact (hp_up_ne _ _ (hp_neN f63 nq37)).trans f65)
  have f67 : g50 q1 = some (.inl (cA 1, 60, .inl (fun _ => 0))) := (by rw [eg50]; exact (hp_up_ne _ _ (hp_neAO f66 f49)).trans f66)
  have f68 : g11 q7 = some (.inl (cA 1, 60, .inl (fun _ => 0))) := (by rw [eg11]; exact (hp_up_ne _ _ (hp_neAO f9 f10)).trans f9)
  have f69 : g14 q7 = some (.inl (cA 1, 60, .inl (fun _ => 0))) := (by rw [eg14]; exact (hp_up_ne _ _ (hp_neN f68 nq13)).trans f68)
  have f70 : g17 q7 = some (.inl (cA 1, 60, .inl (fun _ => 0))) := (by rw [eg17]; exact (hp_up_ne _ _ (hp_neAO f69 f16)).trans f69)
  have f71 : g20 q7 = some (.inl (cA 1, 60, .inl (fun _ => 0))) := (by rw [eg20]; exact (hp_up_ne _ _ (hp_neN f70 nq19)).trans f70)
  have f72 : g23 q7 = some (.inl (cA 1, 60, .inl (fun _ => 0))) := (by rw [eg23]; exact (hp_up_ne _ _ (hp_neAO f71 f22)).trans f71)
  have f73 : g26 q7 = some (.inl (cA 1, 60, .inl (fun _ => 0))) := (by rw [eg26]; exact (hp_up_ne _ _ (hp_neN f72 nq25)).trans f72)
  have f74 : g29 q7 = some (.inl (cA 1, 60, .inl (fun _ => 0))) := (by rw [eg29]; exact (hp_up_ne _ _ (hp_neAO f73 f28)).trans f73)
  have f75 : g32 q7 = some (.inl (cA 1, 60, .inl (fun _ => 0))) := (by rw [eg32]; exact (hp_up_ne _ _ (hp_neN f74 nq31)).trans f74)
  have f76 : g35 q7 = some (.inl (cA 1, 60, .inl (fun _ => 0))) := (by rw [eg35]; exact (hp_up_ne _ _ (hp_neAO f75 f34)).trans f75)
  have f77 : g38 q7 = some (.inl (cA 1, 60, .inl (fun _ => 0))) := (by rw [eg38]; exact (hp_up_ne _ _ (hp_neN f76 nq37)).trans f76)
  have f78 : g44 q7 = some (.inl (cA 1, 60, .inl (fun _ => 0))) := (by rw [eg44]; exact (hp_up_ne _ _ (hp_neN f77 nk43)).trans f77)
  have f79 : u40 q7 = some (.inl (cA 1, 60, .inl (fun _ => 0))) := (by rw [eu40]; exact (hp_up_ne _ _ (hp_neN f76 nq37)).trans f78)
  have f80 : g50 q7 = some (.inl (cA 1, 60, .inl (fun _ => 0))) := (by rw [eg50]; exact (hp_up_ne _ _ (hp_neAO f79 f49)).trans f79)
  have f81 : g17 q13 = some (.inl (cA 1, 60, .inl (fun _ => 0))) := (by rw [eg17]; exact (hp_up_ne _ _ (hp_neAO f15 f16)).trans f15)
  have f82 : g20 q13 = some (.inl (cA 1, 60, .inl (fun _ => 0))) := (by rw [eg20]; exact (hp_up_ne _ _ (hp_neN f81 nq19)).trans f81)
  have f83 : g23 q13 = some (.inl (cA 1, 60, .inl (fun _ => 0))) := (by rw [eg23]; exact (hp_up_ne _ _ (hp_neAO f82 f22)).trans f82)
  have f84 : g26 q13 = some (.inl (cA 1, 60, .inl (fun _ => 0))) := (by rw [eg26]; exact (hp_up_ne _ _ (hp_neN f83 nq25)).trans f83)
  have f85 : g29 q13 = some (.inl (cA 1, 60, .inl (fun _ => 0))) := (by rw [eg29]; exact (hp_up_ne _ _ (hp_neAO f84 f28)).trans f84)
  have f86 : g32 q13 = some (.inl (cA 1, 60, .inl (fun _ => 0))) := (by rw [eg32]; exact (hp_up_ne _ _ (hp_neN f85 nq31)).trans f85)
  have f87 : g35 q13 = some (.inl (cA 1, 60, .inl (fun _ => 0))) := (by rw [eg35]; exact (hp_up_ne _ _ (hp_neAO f86 f34)).trans f86)
  have f88 : g38 q13 = some (.inl (cA 1, 60, .inl (fun _ => 0))) := (by rw [eg38]; exact (hp_up_ne _ _ (hp_neN f87 nq37)).trans f87)
  have f89 : g44 q13 = some (.inl (cA 1, 60, .inl (fun _ => 0))) := (by rw [eg44]; exact (hp_up_ne _ _ (hp_neN f88 nk43)).trans f88)
  have f90 : u40 q13 = some (.inl (cA 1, 60, .inl (fun _ => 0))) := (by rw [eu40]; exact (hp_up_ne _ _ (hp_neN f87 nq37)).trans f89)
  have f91 : g50 q13 = some (.inl (cA 1, 60, .inl (fun _ => 0))) := (by rw [eg50]; exact (hp_up_ne _ _ (hp_neAO f90 f49)).trans f90)
  have f92 : g23 q19 = some (.inl (cA 1, 60, .inl (fun _ => 0))) := (by rw [eg23]; exact (hp_up_ne _ _ (hp_neAO f21 f22)).trans f21)
  have f93 : g26 q19 = some (.inl (cA 1, 60, .inl (fun _ => 0))) := (by rw [eg26]; exact (hp_up_ne _ _ (hp_neN f92 nq25)).trans f92)
  have f94 : g29 q19 = some (.inl (cA 1, 60, .inl (fun _ => 0))) := (by rw [eg29]; exact (hp_up_ne _ _ (hp_neAO f93 f28)).trans f93)
  have f95 : g32 q19 = some (.inl (cA 1, 60, .inl (fun _ => 0))) := (by rw [eg32]; exact (hp_up_ne _ _ (hp_neN f94 nq31)).trans f94)
  have f96 : g35 q19 = some (.inl (cA 1, 60, .inl (fun _ => 0))) := (by rw [eg35]; exact (hp_up_ne _ _ (hp_neAO f95 f34)).trans f95)
  have f97 : g38 q19 = some (.inl (cA 1, 60, .inl (fun _ => 0))) := (by rw [eg38]; exact (hp_up_ne _ _ (hp_neN f96 nq37)).trans f96)
  have f98 : g44 q19 = some (.inl (cA 1, 60, .inl (fun _ => 0))) := (by rw [eg44]; exact (hp_up_ne _ _ (hp_neN f97 nk43)).trans f97)
  have f99 : u40 q19 = some (.inl (cA 1, 60, .inl (fun _ => 0))) := (by rw [eu40]; exact (hp_up_ne _ _ (hp_neN f96 nq37)).trans f98)
  have f100 : g50 q19 = some (.inl (cA 1, 60, .inl (fun _ => 0))) := (by rw [eg50]; exact (hp_up_ne _ _ (hp_neAO f99 f49)).trans f99)
  have f101 : g29 q25 = some (.inl (cA 1, 60, .inl (fun _ => 0))) := (by rw [eg29]; exact (hp_up_ne _ _ (hp_neAO f27 f28)).trans f27)
  have f102 : g32 q25 = some (.inl (cA 1, 60, .inl (fun _ => 0))) := (by rw [eg32]; exact (hp_up_ne _ _ (hp_neN f101 nq31)).trans f101)
  have f103 : g35 q25 = some (.inl (cA 1, 60, .inl (fun _ => 0))) := (by rw [eg35]; exact (hp_up_ne _ _ (hp_neAO f102 f34)).trans f102)
  have f104 : g38 q25 = some (.inl (cA 1, 60, .inl (fun _ => 0))) := (by rw [eg38]; exact (hp_up_ne _ _ (hp_neN f103 nq37)).trans f103)
  have f105 : g44 q25 = some (.inl (cA 1, 60, .inl (fun _ => 0))) := (by rw [eg44]; exact (hp_up_ne _ _ (hp_neN f104 nk43)).trans f104)
  have f106 : u40 q25 = some (.inl (cA 1, 60, .inl (fun _ => 0))) := (by rw [eu40]; exact (hp_up_ne _ _ (hp_neN f103 nq37)).trans f105)
  have f107 : g50 q25 = some (.inl (cA 1, 60, .inl (fun _ => 0))) := (by rw [eg50]; exact (hp_up_ne _ _ (hp_neAO f106 f49)).trans f106)
  have f108 : g35 q31 = some (.inl (cA 1, 60, .inl (fun _ => 0))) := (by rw [eg35]; exact (hp_up_ne _ _ (hp_neAO f33 f34)).trans f33)
  have f109 : g38 q31 = some (.inl (cA 1, 60, .inl (fun _ => 0))) := (by rw [eg38]; exact (hp_up_ne _ _ (hp_neN f108 nq37)).trans f108)
  have f110 : g44 q31 = some (.inl (cA 1, 60, .inl (fun _ => 0))) := (by rw [eg44]; exact (hp_up_ne _ _ (hp_neN f109 nk43)).trans f109)
  have f111 : u40 q31 = some (.inl (cA 1, 60, .inl (fun _ => 0))) := (by rw [eu40]; exact (hp_up_ne _ _ (hp_neN f108 nq37)).trans f110)
  have f112 : g50 q31 = some (.inl (cA 1, 60, .inl (fun _ => 0))) := (by rw [eg50]; exact (hp_up_ne _ _ (hp_neAO f111 f49)).trans f111)
  have f113 : u40 k43 = some (.inl (cA 2, 32, .inr (.inl (fun _ => 0)))) := (by rw [eu40]; exact (hp_up_ne _ _ ((Ne.symm (hp_neN f39 nk43)))).trans f45)
  have f114 : g50 k43 = some (.inl (cA 2, 32, .inr (.inl (fun _ => 0)))) := (by rw [eg50]; exact (hp_up_ne _ _ (hp_neAO f113 f49)).trans f113)
  have ne0_1 : h ≠ q1 := hp_neOA f51 f67
  have ne0_2 : h ≠ q7 := hp_neOA f51 f80
  have ne0_3 : h ≠ q13 := hp_neOA f51 f91
  have ne0_4 : h ≠ q19 := hp_neOA f51 f100
  have ne0_5 : h ≠ q25 := hp_neOA f51 f107
  have ne0_6 : h ≠ q31 := hp_neOA f51 f112
  have ne0_7 : h ≠ q37 := hp_neK f51 f52 (by decide)
  have ne0_8 : h ≠ k43 := hp_neOA f51 f114
  have ne1_2 : q1 ≠ q7 := hp_neN f53 nq7
  have ne1_3 : q1 ≠ q13 := hp_neN f55 nq13
  have ne1_4 : q1 ≠ q19 := hp_neN f57 nq19
  have ne1_5 : q1 ≠ q25 := hp_neN f59 nq25
  have ne1_6 : q1 ≠ q31 := hp_neN f61 nq31
  have ne1_7 : q1 ≠ q37 := hp_neAO f67 f52
  have ne1_8 : q1 ≠ k43 := hp_neAA01 f67 f114
  have ne2_3 : q7 ≠ q13 := hp_neN f68 nq13
  have ne2_4 : q7 ≠ q19 := hp_neN f70 nq19
  have ne2_5 : q7 ≠ q25 := hp_neN f72 nq25
  have ne2_6 : q7 ≠ q31 := hp_neN f74 nq31
  have ne2_7 : q7 ≠ q37 := hp_neAO f80 f52
  have ne2_8 : q7 ≠ k43 := hp_neAA01 f80 f114
  have ne3_4 : q13 ≠ q19 := hp_neN f81 nq19
  have ne3_5 : q13 ≠ q25 := hp_neN f83 nq25
  have ne3_6 : q13 ≠ q31 := hp_neN f85 nq31
  have ne3_7 : q13 ≠ q37 := hp_neAO f91 f52
  have ne3_8 : q13 ≠ k43 := hp_neAA01 f91 f114
  have ne4_5 : q19 ≠ q25 := hp_neN f92 nq25
  have ne4_6 : q19 ≠ q31 := hp_neN f94 nq31
  have ne4_7 : q19 ≠ q37 := hp_neAO f100 f52
  have ne4_8 : q19 ≠ k43 := hp_neAA01 f100 f114
  have ne5_6 : q25 ≠ q31 := hp_neN f101 nq31
  have ne5_7 : q25 ≠ q37 := hp_neAO f107 f52
  have ne5_8 : q25 ≠ k43 := hp_neAA01 f107 f114
  have ne6_7 : q31 ≠ q37 := hp_neAO f112 f52
  have ne6_8 : q31 ≠ k43 := hp_neAA01 f112 f114
  have ne7_8 : q37 ≠ k43 := hp_neOA f52 f114
  have his : pl_is 9 (K_Strand cA) g50 (fun j => match j with | 0 => h | 1 => q1 | 2 => q7 | 3 => q13 | 4 => q19 | 5 => q25 | 6 => q31 | 7 => q37 | _ => k43) := by
    intro j hj
    rcases (show j = 0 ∨ j = 1 ∨ j = 2 ∨ j = 3 ∨ j = 4 ∨ j = 5 ∨ j = 6 ∨ j = 7 ∨ j = 8 by omega) with rfl | rfl | rfl | rfl | rfl | rfl | rfl | rfl | rfl
    · exact f51
    · exact f67
    · exact f80
    · exact f91
    · exact f100
    · exact f107
    · exact f112
    · exact f52
    · exact f114
  have hnw : ∀ j, 0 < j → j < 9 → g ((fun j => match j with | 0 => h | 1 => q1 | 2 => q7 | 3 => q13 | 4 => q19 | 5 => q25 | 6 => q31 | 7 => q37 | _ => k43) j) = none := by
    intro j h0 hj
    rcases (show j = 1 ∨ j = 2 ∨ j = 3 ∨ j = 4 ∨ j = 5 ∨ j = 6 ∨ j = 7 ∨ j = 8 by omega) with rfl | rfl | rfl | rfl | rfl | rfl | rfl | rfl
    · exact nq1
    · exact hp_up_none eg2 (hp_up_none eg5 (nq7))
    · exact hp_up_none eg2 (hp_up_none eg5 (hp_up_none eg8 (hp_up_none eg11 (nq13))))
    · exact hp_up_none eg2 (hp_up_none eg5 (hp_up_none eg8 (hp_up_none eg11 (hp_up_none eg14 (hp_up_none eg17 (nq19))))))
    · exact hp_up_none eg2 (hp_up_none eg5 (hp_up_none eg8 (hp_up_none eg11 (hp_up_none eg14 (hp_up_none eg17 (hp_up_none eg20 (hp_up_none eg23 (nq25))))))))
    · exact hp_up_none eg2 (hp_up_none eg5 (hp_up_none eg8 (hp_up_none eg11 (hp_up_none eg14 (hp_up_none eg17 (hp_up_none eg20 (hp_up_none eg23 (hp_up_none eg26 (hp_up_none eg29 (nq31))))))))))
    · exact hp_up_none eg2 (hp_up_none eg5 (hp_up_none eg8 (hp_up_none eg11 (hp_up_none eg14 (hp_up_none eg17 (hp_up_none eg20 (hp_up_none eg23 (hp_up_none eg26 (hp_up_none eg29 (hp_up_none eg32 (hp_up_none eg35 (nq37))))))))))))
    · exact hp_up_none eg2 (hp_up_none eg5 (hp_up_none eg8 (hp_up_none eg11 (hp_up_none eg14 (hp_up_none eg17 (hp_up_none eg20 (hp_up_none eg23 (hp_up_none eg26 (hp_up_none eg29 (hp_up_none eg32 (hp_up_none eg35 (hp_up_none eg38 (nk43)))))))))))))
  have hij : pl_inj 9 (fun j => match j with | 0 => h | 1 => q1 | 2 => q7 | 3 => q13 | 4 => q19 | 5 => q25 | 6 => q31 | 7 => q37 | _ => k43) := by
    intro i j hi hj he
    rcases (show i = 0 ∨ i = 1 ∨ i = 2 ∨ i = 3 ∨ i = 4 ∨ i = 5 ∨ i = 6 ∨ i = 7 ∨ i = 8 by omega) with rfl | rfl | rfl | rfl | rfl | rfl | rfl | rfl | rfl <;> rcases (show j = 0 ∨ j = 1 ∨ j = 2 ∨ j = 3 ∨ j = 4 ∨ j = 5 ∨ j = 6 ∨ j = 7 ∨ j = 8 by omega) with rfl | rfl | rfl | rfl | rfl | rfl | rfl | rfl | rfl
    · rfl
    · exact absurd he ne0_1
    · exact absurd he ne0_2
    · exact absurd he ne0_3
    · exact absurd he ne0_4
    · exact absurd he ne0_5
    · exact absurd he ne0_6
    · exact absurd he ne0_7
    · exact absurd he ne0_8
    · exact absurd he.symm ne0_1
    · rfl
    · exact absurd he ne1_2
    · exact absurd he ne1_3
    · exact absurd he ne1_4
    · exact absurd he ne1_5
    · exact absurd he ne1_6
    · exact absurd he ne1_7
    · exact absurd he ne1_8
    · exact absurd he.symm ne0_2
    · exact absurd he.symm ne1_2
    · rfl
    · exact absurd he ne2_3
    · exact absurd he ne2_4
    · exact absurd he ne2_5
    · exact absurd he ne2_6
    · exact absurd he ne2_7
    · exact absurd he ne2_8
    · exact absurd he.symm ne0_3
    · exact absurd he.symm ne1_3
    · exact absurd he.symm ne2_3
    · rfl
    · exact absurd he ne3_4
    · exact absurd he ne3_5
    · exact absurd he ne3_6
    · exact absurd he ne3_7
    · exact absurd he ne3_8
    · exact absurd he.symm ne0_4
    · exact absurd he.symm ne1_4
    · exact absurd he.symm ne2_4
    · exact absurd he.symm ne3_4
    · rfl
    · exact absurd he ne4_5
    · exact absurd he ne4_6
    · exact absurd he ne4_7
    · exact absurd he ne4_8
    · exact absurd he.symm ne0_5
    · exact absurd he.symm ne1_5
    · exact absurd he.symm ne2_5
    · exact absurd he.symm ne3_5
    · exact absurd he.symm ne4_5
    · rfl
    · exact absurd he ne5_6
    · exact absurd he ne5_7
    · exact absurd he ne5_8
    · exact absurd he.symm ne0_6
    · exact absurd he.symm ne1_6
    · exact absurd he.symm ne2_6
    · exact absurd he.symm ne3_6
    · exact absurd he.symm ne4_6
    · exact absurd he.symm ne5_6
    · rfl
    · exact absurd he ne6_7
    · exact absurd he ne6_8
    · exact absurd he.symm ne0_7
    · exact absurd he.symm ne1_7
    · exact absurd he.symm ne2_7
    · exact absurd he.symm ne3_7
    · exact absurd he.symm ne4_7
    · exact absurd he.symm ne5_7
    · exact absurd he.symm ne6_7
    · rfl
    · exact absurd he ne7_8
    · exact absurd he.symm ne0_8
    · exact absurd he.symm ne1_8
    · exact absurd he.symm ne2_8
    · exact absurd he.symm ne3_8
    · exact absurd he.symm ne4_8
    · exact absurd he.symm ne5_8
    · exact absurd he.symm ne6_8
    · exact absurd he.symm ne7_8
    · rfl
  have hxt : hp_extX h g g50 := by
    intro b e hb hg
    have xg2 : g2 b = some e := by rw [eg2]; exact (hp_up_ne _ _ (hp_neN hg nq1)).trans hg
    have xg5 : g5 b = some e := by rw [eg5]; exact (hp_up_ne _ _ (hb)).trans xg2
    have xg8 : g8 b = some e := by rw [eg8]; exact (hp_up_ne _ _ (hp_neN xg5 nq7)).trans xg5
    have xg11 : g11 b = some e := by rw [eg11]; exact (hp_up_ne _ _ (hb)).trans xg8
    have xg14 : g14 b = some e := by rw [eg14]; exact (hp_up_ne _ _ (hp_neN xg11 nq13)).trans xg11
    have xg17 : g17 b = some e := by rw [eg17]; exact (hp_up_ne _ _ (hb)).trans xg14
    have xg20 : g20 b = some e := by rw [eg20]; exact (hp_up_ne _ _ (hp_neN xg17 nq19)).trans xg17
    have xg23 : g23 b = some e := by rw [eg23]; exact (hp_up_ne _ _ (hb)).trans xg20
    have xg26 : g26 b = some e := by rw [eg26]; exact (hp_up_ne _ _ (hp_neN xg23 nq25)).trans xg23
    have xg29 : g29 b = some e := by rw [eg29]; exact (hp_up_ne _ _ (hb)).trans xg26
    have xg32 : g32 b = some e := by rw [eg32]; exact (hp_up_ne _ _ (hp_neN xg29 nq31)).trans xg29
    have xg35 : g35 b = some e := by rw [eg35]; exact (hp_up_ne _ _ (hb)).trans xg32
    have xg38 : g38 b = some e := by rw [eg38]; exact (hp_up_ne _ _ (hp_neN xg35 nq37)).trans xg35
    have xg44 : g44 b = some e := by rw [eg44]; exact (hp_up_ne _ _ (hp_neN xg38 nk43)).trans xg38
    have xu40 : u40 b = some e := by rw [eu40]; exact (hp_up_ne _ _ (hp_neN hg (hp_up_none eg2 (hp_up_none eg5 (hp_up_none eg8 (hp_up_none eg11 (hp_up_none eg14 (hp_up_none eg17 (hp_up_none eg20 (hp_up_none eg23 (hp_up_none eg26 (hp_up_none eg29 (hp_up_none eg32 (hp_up_none eg35 (nq37))))))))))))))).trans xg44
    have xg50 : g50 b = some e := by rw [eg50]; exact (hp_up_ne _ _ (hb)).trans xu40
    exact xg50
  exact hp_vret cx hw (⟨(fun j => match j with | 0 => h | 1 => q1 | 2 => q7 | 3 => q13 | 4 => q19 | 5 => q25 | 6 => q31 | 7 => q37 | _ => k43), rfl, his, hnw, hij, hxt⟩) dX7_init_65
