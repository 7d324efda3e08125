theorem m_X2_init_oi : Cond.methodLink RX2 3 objectInit ∈ wsX2_init := by decide +kernel
theorem m_X2_init_oj : Cond.instanceMethod objectInit ∈ wsX2_init := by decide +kernel
theorem m_X2_init_ok : Cond.code objectInit ⟨#[0xb1]⟩ 1 none ∈ wsX2_init := by decide +kernel
theorem m_X2_init_f9 : Cond.fieldLink RX2 9 "WardenHouse$Plan" "policy" "LWardenHouse$Policy;" ∈ wsX2_init := by decide +kernel
set_option maxRecDepth 20000 in
theorem i_X2_init_X2 : ∀ w ∈ wsX20, w ∈ wsX2_init := by decide +kernel
theorem m_X2_init_k15 : Cond.classLink RX2 15 RX9 ∈ wsX2_init := by decide +kernel
theorem m_X2_init_f17 : Cond.fieldLink RX2 17 "WardenHouse$Plan" "units" "[LWardenHouse$Unit;" ∈ wsX2_init := by decide +kernel
theorem m_X2_init_a2 : Cond.arrayClass .long ∈ wsX2_init := by decide +kernel
theorem m_X2_init_f22 : Cond.fieldLink RX2 22 "WardenHouse$Plan" "moduleNames" "[J" ∈ wsX2_init := by decide +kernel
theorem m_X2_init_a1 : Cond.arrayClass .int ∈ wsX2_init := by decide +kernel
theorem m_X2_init_f26 : Cond.fieldLink RX2 26 "WardenHouse$Plan" "supers" "[I" ∈ wsX2_init := by decide +kernel
theorem m_X2_init_f30 : Cond.fieldLink RX2 30 "WardenHouse$Plan" "fieldNames" "[J" ∈ wsX2_init := by decide +kernel
theorem m_X2_init_f33 : Cond.fieldLink RX2 33 "WardenHouse$Plan" "fieldCounts" "[I" ∈ wsX2_init := by decide +kernel
theorem m_X2_init_f36 : Cond.fieldLink RX2 36 "WardenHouse$Plan" "fieldBases" "[I" ∈ wsX2_init := by decide +kernel
theorem m_X2_init_f39 : Cond.fieldLink RX2 39 "WardenHouse$Plan" "methods" "[I" ∈ wsX2_init := by decide +kernel
theorem m_X2_init_f42 : Cond.fieldLink RX2 42 "WardenHouse$Plan" "methodCounts" "[I" ∈ wsX2_init := by decide +kernel
theorem m_X2_init_f45 : Cond.fieldLink RX2 45 "WardenHouse$Plan" "numbers" "[I" ∈ wsX2_init := by decide +kernel
theorem m_X2_init_f48 : Cond.fieldLink RX2 48 "WardenHouse$Plan" "names" "[J" ∈ wsX2_init := by decide +kernel
theorem m_X2_init_f51 : Cond.fieldLink RX2 51 "WardenHouse$Plan" "places" "[I" ∈ wsX2_init := by decide +kernel
theorem m_X2_init_n9 : Cond.instantiable RX9 18 ∈ wsX2_init := by decide +kernel
theorem m_X2_init_z9 : Cond.initialized RX9 ∈ wsX2_init := by decide +kernel
set_option maxRecDepth 20000 in
theorem i_X2_init_X9 : ∀ w ∈ wsX90, w ∈ wsX2_init := by decide +kernel
theorem m_X2_init_l21 : Cond.methodLink RX2 21 yX9_init ∈ wsX2_init := by decide +kernel
theorem m_X2_init_j21 : Cond.instanceMethod yX9_init ∈ wsX2_init := by decide +kernel
set_option maxHeartbeats 4000000 in
set_option maxRecDepth 100000 in
/-- Plan(policy) -/
theorem k_Plan_init (l : Launch) (D : va_G) (cA : Nat → ClassId) (E : hp_N) (sz : Nat) (g : hp_M) (hAO : ∀ A U H, E A U H → va_AO "WardenHouse$Unit" U) (pol : Nat) (h : Nat) (hh : g h = some (.inr (2, [.null, .null, .int 0, .null, .null, .null, .null, .null, .null, .null, .int 0, .null, .int 0, .null, .int 0, .null]))) : Met l yX2_init wsX2_init ({ frames := 3, cells := 491, slots := 7008, locals := 70 }) (hp_Pc D vwCl (hp_Tl cA) E sz g [.ref h, .ref pol]) (hp_Qv D vwCl (hp_Tl cA) sz g (fun u => hp_extX h g u ∧ ∃ a : Nat → Nat, u h = some (.inr (2, [.ref pol, .ref (a 1), .int 0, .ref (a 3), .ref (a 4), .ref (a 5), .ref (a 6), .ref (a 7), .ref (a 8), .ref (a 9), .int 0, .ref (a 11), .int 0, .ref (a 13), .int 0, .ref (a 15)])) ∧ pl_full 8 6 60 (K_Unit cA) cA g u (a 1))) 491 7008 (hp_A g sz) := by
  refine hp_ofW (cc := cX2_init) (maxL := 3) (ret := none) (by decide) rfl (Nat.le_of_ble_eq_true rfl) ?_
  intro pp ee ss mm bb mt cd ls cx hsz hw hl
  have hl : lv_has ls 3 [(0, .ref h), (1, .ref pol)] := hl
  refine lv_aload_n cx.1 cx.2.1 dX2_init_0 rfl (lv_at hl 0 rfl) ?_
  refine W.objInit cx.1 cx.2.1 cx.2.2.2.2.1 (cx.2.2.2.2.2.1 _ m_X2_init_oi) (cx.2.2.2.2.2.1 _ m_X2_init_oj) (cx.2.2.2.2.2.1 _ m_X2_init_ok) rfl (by rw [cx.2.2.2.1]; exact hl.1) rfl dX2_init_1 (Nat.le_of_ble_eq_true rfl) (Nat.le_of_ble_eq_true rfl) ?_
  refine W.eq (g2 := F0 mm 4 ls []) rfl ?_
  refine lv_aload_n cx.1 cx.2.1 dX2_init_4 rfl (lv_at hl 0 rfl) ?_
  refine lv_aload_n cx.1 cx.2.1 dX2_init_5 rfl (lv_at hl 1 rfl) ?_
  refine hp_putF (C := RX2) (T := TX2) (N := 16) (ci := 2) (fs' := [.ref pol, .null, .int 0, .null, .null, .null, .null, .null, .null, .null, .int 0, .null, .int 0, .null, .int 0, .null]) cx hw i_X2_init_X2 tyX2_ok nmX2 rfl hh 0 (by decide) m_X2_init_f9 rfl rfl rfl rfl rfl (Nat.le_of_ble_eq_true rfl) rfl dX2_init_6 (fun g1 H locs eg1 hw => ?_)
  have f2 : g1 h = some (.inr (2, [.ref pol, .null, .int 0, .null, .null, .null, .null, .null, .null, .null, .int 0, .null, .int 0, .null, .int 0, .null])) := (by rw [eg1]; exact hp_up_self _ _ _)
  refine lv_aload_n cx.1 cx.2.1 dX2_init_9 rfl (lv_at hl 0 rfl) ?_
  refine lv_bipush (v := 60) cx.1 cx.2.1 dX2_init_10 (by decide) ?_
  refine hp_newq (N' := 60) cx hw m_X2_init_k15 (hAO _ _ _ hw.2.2.2.2.2) 6 rfl (by decide) (by decide) (by decide) (by exact Nat.le_of_ble_eq_true rfl) (by exact Nat.le_of_ble_eq_true rfl) dX2_init_12 (fun q3 g4 H nq3 eg4 hw => ?_)
  have f5 : g4 q3 = some (.inl (cA 6, 60, .inr (.inr (.inr (.inr (fun _ => none)))))) := (by rw [eg4]; exact hp_up_self _ _ _)
  have f6 : g4 h = some (.inr (2, [.ref pol, .null, .int 0, .null, .null, .null, .null, .null, .null, .null, .int 0, .null, .int 0, .null, .int 0, .null])) := (by rw [eg4]; exact (hp_up_ne _ _ (hp_neN f2 nq3)).trans f2)
  refine hp_putF (C := RX2) (T := TX2) (N := 16) (ci := 2) (fs' := [.ref pol, .ref q3, .int 0, .null, .null, .null, .null, .null, .null, .null, .int 0, .null, .int 0, .null, .int 0, .null]) cx hw i_X2_init_X2 tyX2_ok nmX2 rfl f6 1 (by decide) m_X2_init_f17 rfl rfl rfl rfl rfl (Nat.le_of_ble_eq_true rfl) rfl dX2_init_15 (fun g7 H locs eg7 hw => ?_)
  have f8 : g7 h = some (.inr (2, [.ref pol, .ref q3, .int 0, .null, .null, .null, .null, .null, .null, .null, .int 0, .null, .int 0, .null, .int 0, .null])) := (by rw [eg7]; exact hp_up_self _ _ _)
  refine lv_iconst (v := 0) cx.1 cx.2.1 dX2_init_18 (by decide) ?_
  refine lv_istore_n (lv' := [(2, .int 0), (0, .ref h), (1, .ref pol)]) cx.1 cx.2.1 dX2_init_19 rfl hl (by decide) rfl (fun ls hl => ?_)
  have f9 : g7 q3 = some (.inl (cA 6, 60, .inr (.inr (.inr (.inr (fun _ => none)))))) := (by rw [eg7]; exact (hp_up_ne _ _ (hp_neAO f5 f6)).trans f5)
  have loop : ∀ (j i : Nat) (gi : hp_M) (H : Heap) (locs : List Loc) (ls : Array Slot), i + j = 60 → pl_inv 8 6 60 (K_Unit cA) cA g7 q3 i gi → hp_w D vwCl (hp_Tl cA) E (hp_A g sz) ss H locs gi → lv_has ls 3 [(2, .int (nI i)), (0, .ref h), (1, .ref pol)] → W pp l ee ({ frames := 3, cells := 491, slots := 7008, locals := 70 }) ss mm [.ref h, .ref pol].toArray bb mt cd H locs (1 + 8 * i) (60 + 93 * i) (MQ bb (hp_Qv D vwCl (hp_Tl cA) sz g (fun u => hp_extX h g u ∧ ∃ a : Nat → Nat, u h = some (.inr (2, [.ref pol, .ref (a 1), .int 0, .ref (a 3), .ref (a 4), .ref (a 5), .ref (a 6), .ref (a 7), .ref (a 8), .ref (a 9), .int 0, .ref (a 11), .int 0, .ref (a 13), .int 0, .ref (a 15)])) ∧ pl_full 8 6 60 (K_Unit cA) cA g u (a 1))) [.ref h, .ref pol].toArray ss 491 7008 (hp_A g sz)) (F0 mm 20 ls []) := by
    intro j
    induction j with
    | zero =>
      intro i gi H locs ls hij hinv hw hl
      obtain ⟨row, P, h1, h2, h3, h4, h5⟩ := hinv
      have hi : i = 60 := by omega
      refine lv_iload_n cx.1 cx.2.1 dX2_init_20 rfl (lv_at hl 0 rfl) ?_
      refine lv_bipush (v := 60) cx.1 cx.2.1 dX2_init_21 (by decide) ?_
      refine lv_icmp_ge (tgt := 45) cx.1 cx.2.1 dX2_init_23 (by decide) (fun c23_10 => ?_) (fun c23_10 => ?_)
      rotate_left
      · exact absurd (by rw [hi]; decide) c23_10
      refine W.widen (k := 481) (n := 5640) (by omega) (by omega) ?_
      refine lv_aload_n cx.1 cx.2.1 dX2_init_45 rfl (lv_at hl 1 rfl) ?_
      refine lv_bipush (v := 8) cx.1 cx.2.1 dX2_init_46 (by decide) ?_
      refine hp_newa (atype := .long) (N' := 8) (a0 := (8, .inr (.inl (fun _ => 0)))) cx hw m_X2_init_a2 2 (ty := .long) rfl rfl (fun _ => rfl) (by decide) (by decide) (by decide) (by exact Nat.le_of_ble_eq_true rfl) (by exact Nat.le_of_ble_eq_true rfl) dX2_init_48 (fun q11 g12 H nq11 eg12 hw => ?_)
      have f13 : g12 q11 = some (.inl (cA 2, 8, .inr (.inl (fun _ => 0)))) := (by rw [eg12]; exact hp_up_self _ _ _)
      have f14 : gi h = some (.inr (2, [.ref pol, .ref q3, .int 0, .null, .null, .null, .null, .null, .null, .null, .int 0, .null, .int 0, .null, .int 0, .null])) := h4 _ _ (hp_neOA f8 f9) f8
      have f15 : g12 h = some (.inr (2, [.ref pol, .ref q3, .int 0, .null, .null, .null, .null, .null, .null, .null, .int 0, .null, .int 0, .null, .int 0, .null])) := (by rw [eg12]; exact (hp_up_ne _ _ (hp_neN f14 nq11)).trans f14)
      refine hp_putF (C := RX2) (T := TX2) (N := 16) (ci := 2) (fs' := [.ref pol, .ref q3, .int 0, .ref q11, .null, .null, .null, .null, .null, .null, .int 0, .null, .int 0, .null, .int 0, .null]) cx hw i_X2_init_X2 tyX2_ok nmX2 rfl f15 3 (by decide) m_X2_init_f22 rfl rfl rfl rfl rfl (Nat.le_of_ble_eq_true rfl) rfl dX2_init_50 (fun g16 H locs eg16 hw => ?_)
      have f17 : g16 h = some (.inr (2, [.ref pol, .ref q3, .int 0, .ref q11, .null, .null, .null, .null, .null, .null, .int 0, .null, .int 0, .null, .int 0, .null])) := (by rw [eg16]; exact hp_up_self _ _ _)
      refine lv_aload_n cx.1 cx.2.1 dX2_init_53 rfl (lv_at hl 1 rfl) ?_
      refine lv_bipush (v := 8) cx.1 cx.2.1 dX2_init_54 (by decide) ?_
      refine hp_newa (atype := .int) (N' := 8) (a0 := (8, .inl (fun _ => 0))) cx hw m_X2_init_a1 1 (ty := .int) rfl rfl (fun _ => rfl) (by decide) (by decide) (by decide) (by exact Nat.le_of_ble_eq_true rfl) (by exact Nat.le_of_ble_eq_true rfl) dX2_init_56 (fun q18 g19 H nq18 eg19 hw => ?_)
      have f20 : g19 q18 = some (.inl (cA 1, 8, .inl (fun _ => 0))) := (by rw [eg19]; exact hp_up_self _ _ _)
      have f21 : g19 h = some (.inr (2, [.ref pol, .ref q3, .int 0, .ref q11, .null, .null, .null, .null, .null, .null, .int 0, .null, .int 0, .null, .int 0, .null])) := (by rw [eg19]; exact (hp_up_ne _ _ (hp_neN f17 nq18)).trans f17)
      refine hp_putF (C := RX2) (T := TX2) (N := 16) (ci := 2) (fs' := [.ref pol, .ref q3, .int 0, .ref q11, .ref q18, .null, .null, .null, .null, .null, .int 0, .null, .int 0, .null, .int 0, .null]) cx hw i_X2_init_X2 tyX2_ok nmX2 rfl f21 4 (by decide) m_X2_init_f26 rfl rfl rfl rfl rfl (Nat.le_of_ble_eq_true rfl) rfl dX2_init_58 (fun g22 H locs eg22 hw => ?_)
      have f23 : g22 h = some (.inr (2, [.ref pol, .ref q3, .int 0, .ref q11, .ref q18, .null, .null, .null, .null, .null, .int 0, .null, .int 0, .null, .int 0, .null])) := (by rw [eg22]; exact hp_up_self _ _ _)
      refine lv_aload_n cx.1 cx.2.1 dX2_init_61 rfl (lv_at hl 1 rfl) ?_
      refine lv_bipush (v := 32) cx.1 cx.2.1 dX2_init_62 (by decide) ?_
      refine hp_newa (atype := .long) (N' := 32) (a0 := (32, .inr (.inl (fun _ => 0)))) cx hw m_X2_init_a2 2 (ty := .long) rfl rfl (fun _ => rfl) (by decide) (by decide) (by decide) (by exact Nat.le_of_ble_eq_true rfl) (by exact Nat.le_of_ble_eq_true rfl) dX2_init_64 (fun q24 g25 H nq24 eg25 hw => ?_)
      have f26 : g25 q24 = some (.inl (cA 2, 32, .inr (.inl (fun _ => 0)))) := (by rw [eg25]; exact hp_up_self _ _ _)
      have f27 : g25 h = some (.inr (2, [.ref pol, .ref q3, .int 0, .ref q11, .ref q18, .null, .null, .null, .null, .null, .int 0, .null, .int 0, .null, .int 0, .null])) := (by rw [eg25]; exact (hp_up_ne _ _ (hp_neN f23 nq24)).trans f23)
      refine hp_putF (C := RX2) (T := TX2) (N := 16) (ci := 2) (fs' := [.ref pol, .ref q3, .int 0, .ref q11, .ref q18, .ref q24, .null, .null, .null, .null, .int 0, .null, .int 0, .null, .int 0, .null]) cx hw i_X2_init_X2 tyX2_ok nmX2 rfl f27 5 (by decide) m_X2_init_f30 rfl rfl rfl rfl rfl (Nat.le_of_ble_eq_true rfl) rfl dX2_init_66 (fun g28 H locs eg28 hw => ?_)
      have f29 : g28 h = some (.inr (2, [.ref pol, .ref q3, .int 0, .ref q11, .ref q18, .ref q24, .null, .null, .null, .null, .int 0, .null, .int 0, .null, .int 0, .null])) := (by rw [eg28]; exact hp_up_self _ _ _)
      refine lv_aload_n cx.1 cx.2.1 dX2_init_69 rfl (lv_at hl 1 rfl) ?_
      refine lv_bipush (v := 8) cx.1 cx.2.1 dX2_init_70 (by decide) ?_
      refine hp_newa (atype := .int) (N' := 8) (a0 := (8, .inl (fun _ => 0))) cx hw m_X2_init_a1 1 (ty := .int) rfl rfl (fun _ => rfl) (by decide) (by decide) (by decide) (by exact Nat.le_of_ble_eq_true rfl) (by exact Nat.le_of_ble_eq_true rfl) dX2_init_72 (fun q30 g31 H nq30 eg31 hw => ?_)
      have f32 : g31 q30 = some (.inl (cA 1, 8, .inl (fun _ => 0))) := (by rw [eg31]; exact hp_up_self _ _ _)
      have f33 : g31 h = some (.inr (2, [.ref pol, .ref q3, .int 0, .ref q11, .ref q18, .ref q24, .null, .null, .null, .null, .int 0, .null, .int 0, .null, .int 0, .null])) := (by rw [eg31]; exact (hp_up_ne _ _ (hp_neN f29 nq30)).trans f29)
      refine hp_putF (C := RX2) (T := TX2) (N := 16) (ci := 2) (fs' := [.ref pol, .ref q3, .int 0, .ref q11, .ref q18, .ref q24, .ref q30, .null, .null, .null, .int 0, .null, .int 0, .null, .int 0, .null]) cx hw i_X2_init_X2 tyX2_ok nmX2 rfl f33 6 (by decide) m_X2_init_f33 rfl rfl rfl rfl rfl (Nat.le_of_ble_eq_true rfl) rfl dX2_init_74 (fun g34 H locs eg34 hw => ?_)
      have f35 : g34 h = some (.inr (2, [.ref pol, .ref q3, .int 0, .ref q11, .ref q18, .ref q24, .ref q30, .null, .null, .null, .int 0, .null, .int 0, .null, .int 0, .null])) := (by rw [eg34]; exact hp_up_self _ _ _)
      refine lv_aload_n cx.1 cx.2.1 dX2_init_77 rfl (lv_at hl 1 rfl) ?_
      refine lv_bipush (v := 8) cx.1 cx.2.1 dX2_init_78 (by decide) ?_
      refine hp_newa (atype := .int) (N' := 8) (a0 := (8, .inl (fun _ => 0))) cx hw m_X2_init_a1 1 (ty := .int) rfl rfl (fun _ => rfl) (by decide) (by decide) (by decide) (by exact Nat.le_of_ble_eq_true rfl) (by exact Nat.le_of_ble_eq_true rfl) dX2_init_80 (fun q36 g37 H nq36 eg37 hw => ?_)
      have f38 : g37 q36 = some (.inl (cA 1, 8, .inl (fun _ => 0))) := (by rw [eg37]; exact hp_up_self _ _ _)
      have f39 : g37 h = some (.inr (2, [.ref pol, .ref q3, .int 0, .ref q11, .ref q18, .ref q24, .ref q30, .null, .null, .null, .int 0, .null, .int 0, .null, .int 0, .null])) := (by rw [eg37]; exact (hp_up_ne _ _ (hp_neN f35 nq36)).trans f35)
      refine hp_putF (C := RX2) (T := TX2) (N := 16) (ci := 2) (fs' := [.ref pol, .ref q3, .int 0, .ref q11, .ref q18, .ref q24, .ref q30, .ref q36, .null, .null, .int 0, .null, .int 0, .null, .int 0, .null]) cx hw i_X2_init_X2 tyX2_ok nmX2 rfl f39 7 (by decide) m_X2_init_f36 rfl rfl rfl rfl rfl (Nat.le_of_ble_eq_true rfl) rfl dX2_init_82 (fun g40 H locs eg40 hw => ?_)
      have f41 : g40 h = some (.inr (2, [.ref pol, .ref q3, .int 0, .ref q11, .ref q18, .ref q24, .ref q30, .ref q36, .null, .null, .int 0, .null, .int 0, .null, .int 0, .null])) := (by rw [eg40]; exact hp_up_self _ _ _)
      refine lv_aload_n cx.1 cx.2.1 dX2_init_85 rfl (lv_at hl 1 rfl) ?_
      refine lv_bipush (v := 96) cx.1 cx.2.1 dX2_init_86 (by decide) ?_
      refine hp_newa (atype := .int) (N' := 96) (a0 := (96, .inl (fun _ => 0))) cx hw m_X2_init_a1 1 (ty := .int) rfl rfl (fun _ => rfl) (by decide) (by decide) (by decide) (by exact Nat.le_of_ble_eq_true rfl) (by exact Nat.le_of_ble_eq_true rfl) dX2_init_88 (fun q42 g43 H nq42 eg43 hw => ?_)
      have f44 : g43 q42 = some (.inl (cA 1, 96, .inl (fun _ => 0))) := (by rw [eg43]; exact hp_up_self _ _ _)
      have f45 : g43 h = some (.inr (2, [.ref pol, .ref q3, .int 0, .ref q11, .ref q18, .ref q24, .ref q30, .ref q36, .null, .null, .int 0, .null, .int 0, .null, .int 0, .null])) := (by rw [eg43]; exact (hp_up_ne _ _ (hp_neN f41 nq42)).trans f41)
      refine hp_putF (C := RX2) (T := TX2) (N := 16) (ci := 2) (fs' := [.ref pol, .ref q3, .int 0, .ref q11, .ref q18, .ref q24, .ref q30, .ref q36, .ref q42, .null, .int 0, .null, .int 0, .null, .int 0, .null]) cx hw i_X2_init_X2 tyX2_ok nmX2 rfl f45 8 (by decide) m_X2_init_f39 rfl rfl rfl rfl rfl (Nat.le_of_ble_eq_true rfl) rfl dX2_init_90 (fun g46 H locs eg46 hw => ?_)
      have f47 : g46 h = some (.inr (2, [.ref pol, .ref q3, .int 0, .ref q11, .ref q18, .ref q24, .ref q30, .ref q36, .ref q42, .null, .int 0, .null, .int 0, .null, .int 0, .null])) := (by rw [eg46]; exact hp_up_self _ _ _)
      refine lv_aload_n cx.1 cx.2.1 dX2_init_93 rfl (lv_at hl 1 rfl) ?_
      refine lv_bipush (v := 8) cx.1 cx.2.1 dX2_init_94 (by decide) ?_
      refine hp_newa (atype := .int) (N' := 8) (a0 := (8, .inl (fun _ => 0))) cx hw m_X2_init_a1 1 (ty := .int) rfl rfl (fun _ => rfl) (by decide) (by decide) (by decide) (by exact Nat.le_of_ble_eq_true rfl) (by exact Nat.le_of_ble_eq_true rfl) dX2_init_96 (fun q48 g49 H nq48 eg49 hw => ?_)
      have f50 : g49 q48 = some (.inl (cA 1, 8, .inl (fun _ => 0))) := (by rw [eg49]; exact hp_up_self _ _ _)
      have f51 : g49 h = some (.inr (2, [.ref pol, .ref q3, .int 0, .ref q11, .ref q18, .ref q24, .ref q30, .ref q36, .ref q42, .null, .int 0, .null, .int 0, .null, .int 0, .null])) := (by rw [eg49]; exact (hp_up_ne _ _ (hp_neN f47 nq48)).trans f47)
      refine hp_putF (C := RX2) (T := TX2) (N := 16) (ci := 2) (fs' := [.ref pol, .ref q3, .int 0, .ref q11, .ref q18, .ref q24, .ref q30, .ref q36, .ref q42, .ref q48, .int 0, .null, .int 0, .null, .int 0, .null]) cx hw i_X2_init_X2 tyX2_ok nmX2 rfl f51 9 (by decide) m_X2_init_f42 rfl rfl rfl rfl rfl (Nat.le_of_ble_eq_true rfl) rfl dX2_init_98 (fun g52 H locs eg52 hw => ?_)
      have f53 : g52 h = some (.inr (2, [.ref pol, .ref q3, .int 0, .ref q11, .ref q18, .ref q24, .ref q30, .ref q36, .ref q42, .ref q48, .int 0, .null, .int 0, .null, .int 0, .null])) := (by rw [eg52]; exact hp_up_self _ _ _)
      refine lv_aload_n cx.1 cx.2.1 dX2_init_101 rfl (lv_at hl 1 rfl) ?_
      refine lv_sipush (v := 400) cx.1 cx.2.1 dX2_init_102 (by decide) ?_
      refine hp_newa (atype := .int) (N' := 400) (a0 := (400, .inl (fun _ => 0))) cx hw m_X2_init_a1 1 (ty := .int) rfl rfl (fun _ => rfl) (by decide) (by decide) (by decide) (by exact Nat.le_of_ble_eq_true rfl) (by exact Nat.le_of_ble_eq_true rfl) dX2_init_105 (fun q54 g55 H nq54 eg55 hw => ?_)
      have f56 : g55 q54 = some (.inl (cA 1, 400, .inl (fun _ => 0))) := (by rw [eg55]; exact hp_up_self _ _ _)
      have f57 : g55 h = some (.inr (2, [.ref pol, .ref q3, .int 0, .ref q11, .ref q18, .ref q24, .ref q30, .ref q36, .ref q42, .ref q48, .int 0, .null, .int 0, .null, .int 0, .null])) := (by rw [eg55]; exact (hp_up_ne _ _ (hp_neN f53 nq54)).trans f53)
      refine hp_putF (C := RX2) (T := TX2) (N := 16) (ci := 2) (fs' := [.ref pol, .ref q3, .int 0, .ref q11, .ref q18, .ref q24, .ref q30, .ref q36, .ref q42, .ref q48, .int 0, .ref q54, .int 0, .null, .int 0, .null]) cx hw i_X2_init_X2 tyX2_ok nmX2 rfl f57 11 (by decide) m_X2_init_f45 rfl rfl rfl rfl rfl (Nat.le_of_ble_eq_true rfl) rfl dX2_init_107 (fun g58 H locs eg58 hw => ?_)
      have f59 : g58 h = some (.inr (2, [.ref pol, .ref q3, .int 0, .ref q11, .ref q18, .ref q24, .ref q30, .ref q36, .ref q42, .ref q48, .int 0, .ref q54, .int 0, .null, .int 0, .null])) := (by rw [eg58]; exact hp_up_self _ _ _)
      refine lv_aload_n cx.1 cx.2.1 dX2_init_110 rfl (lv_at hl 1 rfl) ?_
      refine lv_sipush (v := 400) cx.1 cx.2.1 dX2_init_111 (by decide) ?_
      refine hp_newa (atype := .long) (N' := 400) (a0 := (400, .inr (.inl (fun _ => 0)))) cx hw m_X2_init_a2 2 (ty := .long) rfl rfl (fun _ => rfl) (by decide) (by decide) (by decide) (by exact Nat.le_of_ble_eq_true rfl) (by exact Nat.le_of_ble_eq_true rfl) dX2_init_114 (fun q60 g61 H nq60 eg61 hw => ?_)
      have f62 : g61 q60 = some (.inl (cA 2, 400, .inr (.inl (fun _ => 0)))) := (by rw [eg61]; exact hp_up_self _ _ _)
      have f63 : g61 h = some (.inr (2, [.ref pol, .ref q3, .int 0, .ref q11, .ref q18, .ref q24, .ref q30, .ref q36, .ref q42, .ref q48, .int 0, .ref q54, .int 0, .null, .int 0, .null])) := (by rw [eg61]; exact (hp_up_ne _ _ (hp_neN f59 nq60)).trans f59)
      refine hp_putF (C := RX2) (T := TX2) (N := 16) (ci := 2) (fs' := [.ref pol, .ref q3, .int 0, .ref q11, .ref q18, .ref q24, .ref q30, .ref q36, .ref q42, .ref q48, .int 0, .ref q54, .int 0, .ref q60, .int 0, .null]) cx hw i_X2_init_X2 tyX2_ok nmX2 rfl f63 13 (by decide) m_X2_init_f48 rfl rfl rfl rfl rfl (Nat.le_of_ble_eq_true rfl) rfl dX2_init_116 (fun g64 H locs eg64 hw => ?_)
      have f65 : g64 h = some (.inr (2, [.ref pol, .ref q3, .int 0, .ref q11, .ref q18, .ref q24, .ref q30, .ref q36, .ref q42, .ref q48, .int 0, .ref q54, .int 0, .ref q60, .int 0, .null])) := (by rw [eg64]; exact hp_up_self _ _ _)
      refine lv_aload_n cx.1 cx.2.1 dX2_init_119 rfl (lv_at hl 1 rfl) ?_
      refine lv_sipush (v := 400) cx.1 cx.2.1 dX2_init_120 (by decide) ?_
      refine hp_newa (atype := .int) (N' := 400) (a0 := (400, .inl (fun _ => 0))) cx hw m_X2_init_a1 1 (ty := .int) rfl rfl (fun _ => rfl) (by decide) (by decide) (by decide) (by exact Nat.le_of_ble_eq_true rfl) (by exact Nat.le_of_ble_eq_true rfl) dX2_init_123 (fun q66 g67 H nq66 eg67 hw => ?_)
      have f68 : g67 q66 = some (.inl (cA 1, 400, .inl (fun _ => 0))) := (by rw [eg67]; exact hp_up_self _ _ _)
      have f69 : g67 h = some (.inr (2, [.ref pol, .ref q3, .int 0, .ref q11, .ref q18, .ref q24, .ref q30, .ref q36, .ref q42, .ref q48, .int 0, .ref q54, .int 0, .ref q60, .int 0, .null])) := (by rw [eg67]; exact (hp_up_ne _ _ (hp_neN f65 nq66)).trans f65)
      refine hp_putF (C := RX2) (T := TX2) (N := 16) (ci := 2) (fs' := [.ref pol, .ref q3, .int 0, .ref q11, .ref q18, .ref q24, .ref q30, .ref q36, .ref q42, .ref q48, .int 0, .ref q54, .int 0, .ref q60, .int 0, .ref q66]) cx hw i_X2_init_X2 tyX2_ok nmX2 rfl f69 15 (by decide) m_X2_init_f51 rfl rfl rfl rfl rfl (Nat.le_of_ble_eq_true rfl) rfl dX2_init_125 (fun g70 H locs eg70 hw => ?_)
      have f71 : g70 h = some (.inr (2, [.ref pol, .ref q3, .int 0, .ref q11, .ref q18, .ref q24, .ref q30, .ref q36, .ref q42, .ref q48, .int 0, .ref q54, .int 0, .ref q60, .int 0, .ref q66])) := (by rw [eg70]; exact hp_up_self _ _ _)
      have hxt : hp_extX h g g70 := by
        intro b e hb hg
        have b_g1 : g1 b = some e := by rw [eg1]; exact (hp_up_ne _ _ (hb)).trans hg
        have b_g4 : g4 b = some e := by rw [eg4]; exact (hp_up_ne _ _ (hp_neN b_g1 nq3)).trans b_g1
        have b_g7 : g7 b = some e := by rw [eg7]; exact (hp_up_ne _ _ (hb)).trans b_g4
        have b_gi := h4 b e (hp_neN hg (hp_up_none eg1 (nq3))) b_g7
        have b_g12 : g12 b = some e := by rw [eg12]; exact (hp_up_ne _ _ (hp_neN b_gi nq11)).trans b_gi
        have b_g16 : g16 b = some e := by rw [eg16]; exact (hp_up_ne _ _ (hb)).trans b_g12
        have b_g19 : g19 b = some e := by rw [eg19]; exact (hp_up_ne _ _ (hp_neN b_g16 nq18)).trans b_g16
        have b_g22 : g22 b = some e := by rw [eg22]; exact (hp_up_ne _ _ (hb)).trans b_g19
        have b_g25 : g25 b = some e := by rw [eg25]; exact (hp_up_ne _ _ (hp_neN b_g22 nq24)).trans b_g22
        have b_g28 : g28 b = some e := by rw [eg28]; exact (hp_up_ne _ _ (hb)).trans b_g25
        have b_g31 : g31 b = some e := by rw [eg31]; exact (hp_up_ne _ _ (hp_neN b_g28 nq30)).trans b_g28
        have b_g34 : g34 b = some e := by rw [eg34]; exact (hp_up_ne _ _ (hb)).trans b_g31
        have b_g37 : g37 b = some e := by rw [eg37]; exact (hp_up_ne _ _ (hp_neN b_g34 nq36)).trans b_g34
        have b_g40 : g40 b = some e := by rw [eg40]; exact (hp_up_ne _ _ (hb)).trans b_g37
        have b_g43 : g43 b = some e := by rw [eg43]; exact (hp_up_ne _ _ (hp_neN b_g40 nq42)).trans b_g40
        have b_g46 : g46 b = some e := by rw [eg46]; exact (hp_up_ne _ _ (hb)).trans b_g43
        have b_g49 : g49 b = some e := by rw [eg49]; exact (hp_up_ne _ _ (hp_neN b_g46 nq48)).trans b_g46
        have b_g52 : g52 b = some e := by rw [eg52]; exact (hp_up_ne _ _ (hb)).trans b_g49
        have b_g55 : g55 b = some e := by rw [eg55]; exact (hp_up_ne _ _ (hp_neN b_g52 nq54)).trans b_g52
        have b_g58 : g58 b = some e := by rw [eg58]; exact (hp_up_ne _ _ (hb)).trans b_g55
        have b_g61 : g61 b = some e := by rw [eg61]; exact (hp_up_ne _ _ (hp_neN b_g58 nq60)).trans b_g58
        have b_g64 : g64 b = some e := by rw [eg64]; exact (hp_up_ne _ _ (hb)).trans b_g61
        have b_g67 : g67 b = some e := by rw [eg67]; exact (hp_up_ne _ _ (hp_neN b_g64 nq66)).trans b_g64
        have b_g70 : g70 b = some e := by rw [eg70]; exact (hp_up_ne _ _ (hb)).trans b_g67
        exact b_g70
      have yq : hp_extX h gi g70 := by
        intro b e hb hg
        have b_g12 : g12 b = some e := by rw [eg12]; exact (hp_up_ne _ _ (hp_neN hg nq11)).trans hg
        have b_g16 : g16 b = some e := by rw [eg16]; exact (hp_up_ne _ _ (hb)).trans b_g12
        have b_g19 : g19 b = some e := by rw [eg19]; exact (hp_up_ne _ _ (hp_neN b_g16 nq18)).trans b_g16
        have b_g22 : g22 b = some e := by rw [eg22]; exact (hp_up_ne _ _ (hb)).trans b_g19
        have b_g25 : g25 b = some e := by rw [eg25]; exact (hp_up_ne _ _ (hp_neN b_g22 nq24)).trans b_g22
        have b_g28 : g28 b = some e := by rw [eg28]; exact (hp_up_ne _ _ (hb)).trans b_g25
        have b_g31 : g31 b = some e := by rw [eg31]; exact (hp_up_ne _ _ (hp_neN b_g28 nq30)).trans b_g28
        have b_g34 : g34 b = some e := by rw [eg34]; exact (hp_up_ne _ _ (hb)).trans b_g31
        have b_g37 : g37 b = some e := by rw [eg37]; exact (hp_up_ne _ _ (hp_neN b_g34 nq36)).trans b_g34
        have b_g40 : g40 b = some e := by rw [eg40]; exact (hp_up_ne _ _ (hb)).trans b_g37
        have b_g43 : g43 b = some e := by rw [eg43]; exact (hp_up_ne _ _ (hp_neN b_g40 nq42)).trans b_g40
        have b_g46 : g46 b = some e := by rw [eg46]; exact (hp_up_ne _ _ (hb)).trans b_g43
        have b_g49 : g49 b = some e := by rw [eg49]; exact (hp_up_ne _ _ (hp_neN b_g46 nq48)).trans b_g46
        have b_g52 : g52 b = some e := by rw [eg52]; exact (hp_up_ne _ _ (hb)).trans b_g49
        have b_g55 : g55 b = some e := by rw [eg55]; exact (hp_up_ne _ _ (hp_neN b_g52 nq54)).trans b_g52
        have b_g58 : g58 b = some e := by rw [eg58]; exact (hp_up_ne _ _ (hb)).trans b_g55
        have b_g61 : g61 b = some e := by rw [eg61]; exact (hp_up_ne _ _ (hp_neN b_g58 nq60)).trans b_g58
        have b_g64 : g64 b = some e := by rw [eg64]; exact (hp_up_ne _ _ (hb)).trans b_g61
        have b_g67 : g67 b = some e := by rw [eg67]; exact (hp_up_ne _ _ (hp_neN b_g64 nq66)).trans b_g64
        have b_g70 : g70 b = some e := by rw [eg70]; exact (hp_up_ne _ _ (hb)).trans b_g67
        exact b_g70
      have fullq : pl_full 8 6 60 (K_Unit cA) cA g7 gi q3 := ⟨row, P, h1, by rw [← hi]; exact h2, by rw [← hi]; exact h3, fun a b ha hb => h5 a b (by omega) hb⟩
      have fullg := fullq.down (fun b hb => hp_up_none eg1 (hp_up_none eg4 (hp_up_none eg7 (hb))))
      have fullu := fullg.extX hh (hp_up_none eg1 (nq3)) yq
      exact hp_vret cx hw (⟨hxt, (fun k => match k with | 1 => q3 | 3 => q11 | 4 => q18 | 5 => q24 | 6 => q30 | 7 => q36 | 8 => q42 | 9 => q48 | 11 => q54 | 13 => q60 | 15 => q66 | _ => 0), f71, fullu⟩) dX2_init_128
    | succ j ih =>
      intro i gi H locs ls hij hinv hw hl
      obtain ⟨row, P, h1, h2, h3, h4, h5⟩ := hinv
      have hlt : i < 60 := by omega
      refine lv_iload_n cx.1 cx.2.1 dX2_init_20 rfl (lv_at hl 0 rfl) ?_
      refine lv_bipush (v := 60) cx.1 cx.2.1 dX2_init_21 (by decide) ?_
      refine lv_icmp_ge (tgt := 45) cx.1 cx.2.1 dX2_init_23 (by decide) (fun c23_72 => ?_) (fun c23_72 => ?_)
      · exact absurd c23_72 (show ¬ nI 60 ≤ nI i from nI_ge hlt (by decide))
      refine lv_aload_n cx.1 cx.2.1 dX2_init_26 rfl (lv_at hl 1 rfl) ?_
      have f73 : gi h = some (.inr (2, [.ref pol, .ref q3, .int 0, .null, .null, .null, .null, .null, .null, .null, .int 0, .null, .int 0, .null, .int 0, .null])) := h4 _ _ (hp_neOA f8 f9) f8
      refine hp_get (C := RX2) (T := TX2) (N := 16) (ci := 2) cx hw i_X2_init_X2 rfl f73 1 (by decide) m_X2_init_f17 (v := .ref q3) rfl dX2_init_27 ?_
      refine lv_iload_n cx.1 cx.2.1 dX2_init_30 rfl (lv_at hl 0 rfl) ?_
      refine hp_new (C := RX9) (T := TX9) (N := 18) (ci := 9) (fs := [.int 0, .int 0, .int 0, .int 0, .int 0, .long 0, .int 0, .int 0, .int 0, .int 0, .int 0, .int 0, .null, .int 0, .int 0, .null, .null, .null]) cx hw i_X2_init_X9 tyX9_ok rfl m_X2_init_k15 m_X2_init_n9 m_X2_init_z9 nwX9 (by (try dsimp only); omega) (by (try dsimp only); omega) dX2_init_31 (fun q74 g75 H nq74 eg75 hw => ?_)
      have f76 : g75 q74 = some (.inr (9, [.int 0, .int 0, .int 0, .int 0, .int 0, .long 0, .int 0, .int 0, .int 0, .int 0, .int 0, .int 0, .null, .int 0, .int 0, .null, .null, .null])) := (by rw [eg75]; exact hp_up_self _ _ _)
      refine lv_dup cx.1 cx.2.1 dX2_init_34 rfl ?_
      refine hp_callIv (As := []) (rest := [.ref q74, .int (nI i), .ref q3]) cx hw (k_Unit_init l D cA E _ g75 q74 f76) (cwI 0 cx.2.2.2.2.2.1 gX2_init_X9_init rfl rfl rfl (cx.2.2.2.2.2.1 _ m_X2_init_z9) (cx.2.2.2.2.2.1 _ m_X2_init_l21) (cx.2.2.2.2.2.1 _ m_X2_init_j21) rfl (by decide +kernel) ⟨Nat.le_of_ble_eq_true rfl, Nat.le_of_ble_eq_true rfl⟩) rfl hl.1 rfl (Nat.le_of_ble_eq_true rfl) dX2_init_35 ⟨by (try dsimp only); omega, by (try dsimp only); omega⟩ (fun u77 H locs hp79 hw => ?_)
      have hmu77 : pl_made 8 (K_Unit cA) q74 g75 u77 := hp79
      obtain ⟨p80, p800, p80i, p80n, p80j, p80x⟩ := hp79
      have f81 : u77 q74 = some (.inr (9, [.int 0, .int 0, .int 0, .int 0, .int 0, .long 0, .int 0, .int 0, .int 0, .int 0, .int 0, .int 0, .ref (p80 1), .int 0, .int 0, .ref (p80 2), .ref (p80 4), .ref (p80 6)])) := by rw [← p800]; exact p80i 0 (by decide)
      have f82 : g75 q3 = some (.inl (cA 6, 60, .inr (.inr (.inr (.inr row))))) := (by rw [eg75]; exact (hp_up_ne _ _ (hp_neN h1 nq74)).trans h1)
      have f83 : u77 q3 = some (.inl (cA 6, 60, .inr (.inr (.inr (.inr row))))) := p80x _ _ (hp_neAO f82 f76) f82
      refine hp_aast (r := (RX9, TX9, 18)) cx hw 6 f83 rfl f81 rfl (vp_in_nI hlt (by decide)) dX2_init_38 (fun g84 H locs eg84 hw => ?_)
      have f85 : g84 q3 = some (.inl (cA 6, 60, .inr (.inr (.inr (.inr (va_up row (nI i).toNatClampNeg (some q74))))))) := (by rw [eg84]; exact hp_up_self _ _ _)
      refine lv_iinc (v := (nI (i + 1))) (lv' := [(2, .int (nI (i + 1))), (0, .ref h), (1, .ref pol)]) cx.1 cx.2.1 dX2_init_39 hl (k := 0) rfl (nI_1 i) (by decide) rfl (fun ls hl => ?_)
      refine lv_goto (tgt := 20) cx.1 cx.2.1 dX2_init_42 (by decide) ?_
      refine W.widen (k := 1 + 8 * (i + 1)) (n := 60 + 93 * (i + 1)) (by omega) (by omega) ?_
      exact ih (i + 1) g84 H locs ls (by omega) (pl_inv.step h1 h2 h3 h4 h5 nq74 eg75 hmu77 (by rw [nI_clamp (by omega)]) eg84 (K_Unit_ne cA) (by decide)) hw (lv_sub hl [0, 1, 2] rfl)
  refine W.widen (k := 1 + 8 * 0) (n := 60 + 93 * 0) (by omega) (by omega) ?_
  exact loop 60 0 g7 _ _ _ (by omega) (pl_inv.start f9) hw (lv_sub hl [0, 1, 2] rfl)

theorem m_X8_init_oi : Cond.methodLink RX8 3 objectInit ∈ wsX8_init := by decide +kernel
theorem m_X8_init_oj : Cond.instanceMethod objectInit ∈ wsX8_init := by decide +kernel
theorem m_X8_init_ok : Cond.code objectInit ⟨#[0xb1]⟩ 1 none ∈ wsX8_init := by decide +kernel
theorem m_X8_init_f9 : Cond.fieldLink RX8 9 "WardenHouse$Survey" "plan" "LWardenHouse$Plan;" ∈ wsX8_init := by decide +kernel
set_option maxRecDepth 20000 in
theorem i_X8_init_X8 : ∀ w ∈ wsX80, w ∈ wsX8_init := by decide +kernel
theorem m_X8_init_a1 : Cond.arrayClass .int ∈ wsX8_init := by decide +kernel
theorem m_X8_init_f15 : Cond.fieldLink RX8 15 "WardenHouse$Survey" "may" "[I" ∈ wsX8_init := by decide +kernel
set_option maxHeartbeats 4000000 in
set_option maxRecDepth 100000 in
/-- Survey(plan) -/
theorem k_Survey_init (l : Launch) (D : va_G) (cA : Nat → ClassId) (E : hp_N) (sz : Nat) (g : hp_M) (pln : Nat) (h : Nat) (hh : g h = some (.inr (8, [.null, .null, .int 0, .int 0, .int 0]))) : Met l yX8_init wsX8_init ({ frames := 1, cells := 1, slots := 60, locals := 12 }) (hp_Pc D vwCl (hp_Tl cA) E sz g [.ref h, .ref pln]) (hp_Qv D vwCl (hp_Tl cA) sz g (fun u => hp_extX h g u ∧ ∃ a : Nat → Nat, u h = some (.inr (8, [.ref pln, .ref (a 1), .int 0, .int 0, .int 0])))) 1 60 (hp_A g sz) := by
  refine hp_ofW (cc := cX8_init) (maxL := 2) (ret := none) (by decide) rfl (Nat.le_of_ble_eq_true rfl) ?_
  intro pp ee ss mm bb mt cd ls cx hsz hw hl
  have hl : lv_has ls 2 [(0, .ref h), (1, .ref pln)] := hl
  refine lv_aload_n cx.1 cx.2.1 dX8_init_0 rfl (lv_at hl 0 rfl) ?_
  refine W.objInit cx.1 cx.2.1 cx.2.2.2.2.1 (cx.2.2.2.2.2.1 _ m_X8_init_oi) (cx.2.2.2.2.2.1 _ m_X8_init_oj) (cx.2.2.2.2.2.1 _ m_X8_init_ok) rfl (by rw [cx.2.2.2.1]; exact hl.1) rfl dX8_init_1 (Nat.le_of_ble_eq_true rfl) (Nat.le_of_ble_eq_true rfl) ?_
  refine W.eq (g2 := F0 mm 4 ls []) rfl ?_
  refine lv_aload_n cx.1 cx.2.1 dX8_init_4 rfl (lv_at hl 0 rfl) ?_
  refine lv_aload_n cx.1 cx.2.1 dX8_init_5 rfl (lv_at hl 1 rfl) ?_
  refine hp_putF (C := RX8) (T := TX8) (N := 5) (ci := 8) (fs' := [.ref pln, .null, .int 0, .int 0, .int 0]) cx hw i_X8_init_X8 tyX8_ok nmX8 rfl hh 0 (by decide) m_X8_init_f9 rfl rfl rfl rfl rfl (Nat.le_of_ble_eq_true rfl) rfl dX8_init_6 (fun g1 H locs eg1 hw => ?_)
  have f2 : g1 h = some (.inr (8, [.ref pln, .null, .int 0, .int 0, .int 0])) := (by rw [eg1]; exact hp_up_self _ _ _)
  refine lv_aload_n cx.1 cx.2.1 dX8_init_9 rfl (lv_at hl 0 rfl) ?_
  refine lv_bipush (v := 60) cx.1 cx.2.1 dX8_init_10 (by decide) ?_
  refine hp_newa (atype := .int) (N' := 60) (a0 := (60, .inl (fun _ => 0))) cx hw m_X8_init_a1 1 (ty := .int) rfl rfl (fun _ => rfl) (by decide) (by decide) (by decide) (by exact Nat.le_of_ble_eq_true rfl) (by exact Nat.le_of_ble_eq_true rfl) dX8_init_12 (fun q3 g4 H nq3 eg4 hw => ?_)
  have f5 : g4 q3 = some (.inl (cA 1, 60, .inl (fun _ => 0))) := (by rw [eg4]; exact hp_up_self _ _ _)
  have f6 : g4 h = some (.inr (8, [.ref pln, .null, .int 0, .int 0, .int 0])) := (by rw [eg4]; exact (hp_up_ne _ _ (hp_neN f2 nq3)).trans f2)
  refine hp_putF (C := RX8) (T := TX8) (N := 5) (ci := 8) (fs' := [.ref pln, .ref q3, .int 0, .int 0, .int 0]) cx hw i_X8_init_X8 tyX8_ok nmX8 rfl f6 1 (by decide) m_X8_init_f15 rfl rfl rfl rfl rfl (Nat.le_of_ble_eq_true rfl) rfl dX8_init_14 (fun g7 H locs eg7 hw => ?_)
  have f8 : g7 h = some (.inr (8, [.ref pln, .ref q3, .int 0, .int 0, .int 0])) := (by rw [eg7]; exact hp_up_self _ _ _)
  have hxt : hp_extX h g g7 := by
    intro b e hb hg
    have b_g1 : g1 b = some e := by rw [eg1]; exact (hp_up_ne _ _ (hb)).trans hg
    have b_g4 : g4 b = some e := by rw [eg4]; exact (hp_up_ne _ _ (hp_neN b_g1 nq3)).trans b_g1
    have b_g7 : g7 b = some e := by rw [eg7]; exact (hp_up_ne _ _ (hb)).trans b_g4
    exact b_g7
  exact hp_vret cx hw (⟨hxt, (fun k => match k with | 1 => q3 | _ => 0), f8⟩) dX8_init_17

theorem m_X1_init_oi : Cond.methodLink RX1 5 objectInit ∈ wsX1_init := by decide +kernel
theorem m_X1_init_oj : Cond.instanceMethod objectInit ∈ wsX1_init := by decide +kernel
theorem m_X1_init_ok : Cond.code objectInit ⟨#[0xb1]⟩ 1 none ∈ wsX1_init := by decide +kernel
theorem m_X1_init_f11 : Cond.fieldLink RX1 11 "WardenHouse$Machine" "plan" "LWardenHouse$Plan;" ∈ wsX1_init := by decide +kernel
set_option maxRecDepth 20000 in
theorem i_X1_init_X1 : ∀ w ∈ wsX10, w ∈ wsX1_init := by decide +kernel
theorem m_X1_init_f15 : Cond.fieldLink RX1 15 "WardenHouse$Machine" "policy" "LWardenHouse$Policy;" ∈ wsX1_init := by decide +kernel
theorem m_X1_init_k19 : Cond.classLink RX1 19 RX0 ∈ wsX1_init := by decide +kernel
theorem m_X1_init_n0 : Cond.instantiable RX0 6 ∈ wsX1_init := by decide +kernel
theorem m_X1_init_z0 : Cond.initialized RX0 ∈ wsX1_init := by decide +kernel
set_option maxRecDepth 20000 in
theorem i_X1_init_X0 : ∀ w ∈ wsX00, w ∈ wsX1_init := by decide +kernel
theorem m_X1_init_l21 : Cond.methodLink RX1 21 yX0_init ∈ wsX1_init := by decide +kernel
theorem m_X1_init_j21 : Cond.instanceMethod yX0_init ∈ wsX1_init := by decide +kernel
theorem m_X1_init_f22 : Cond.fieldLink RX1 22 "WardenHouse$Machine" "contexts" "LWardenHouse$Contexts;" ∈ wsX1_init := by decide +kernel
theorem m_X1_init_k26 : Cond.classLink RX1 26 RX7 ∈ wsX1_init := by decide +kernel
theorem m_X1_init_f28 : Cond.fieldLink RX1 28 "WardenHouse$Machine" "strands" "[LWardenHouse$Strand;" ∈ wsX1_init := by decide +kernel
theorem m_X1_init_f33 : Cond.fieldLink RX1 33 "WardenHouse$Machine" "target" "LWardenHouse$Strand;" ∈ wsX1_init := by decide +kernel
theorem m_X1_init_k37 : Cond.classLink RX1 37 RX6 ∈ wsX1_init := by decide +kernel
theorem m_X1_init_n6 : Cond.instantiable RX6 2 ∈ wsX1_init := by decide +kernel
theorem m_X1_init_z6 : Cond.initialized RX6 ∈ wsX1_init := by decide +kernel
set_option maxRecDepth 20000 in
theorem i_X1_init_X6 : ∀ w ∈ wsX60, w ∈ wsX1_init := by decide +kernel
theorem m_X1_init_l39 : Cond.methodLink RX1 39 yX6_init ∈ wsX1_init := by decide +kernel
theorem m_X1_init_j39 : Cond.instanceMethod yX6_init ∈ wsX1_init := by decide +kernel
theorem m_X1_init_f42 : Cond.fieldLink RX1 42 "WardenHouse$Machine" "nodes" "LWardenHouse$Row;" ∈ wsX1_init := by decide +kernel
theorem m_X1_init_f46 : Cond.fieldLink RX1 46 "WardenHouse$Machine" "things" "LWardenHouse$Row;" ∈ wsX1_init := by decide +kernel
theorem m_X1_init_f49 : Cond.fieldLink RX1 49 "WardenHouse$Machine" "slots" "LWardenHouse$Row;" ∈ wsX1_init := by decide +kernel
theorem m_X1_init_f52 : Cond.fieldLink RX1 52 "WardenHouse$Machine" "events" "LWardenHouse$Row;" ∈ wsX1_init := by decide +kernel
theorem m_X1_init_n7 : Cond.instantiable RX7 18 ∈ wsX1_init := by decide +kernel
theorem m_X1_init_z7 : Cond.initialized RX7 ∈ wsX1_init := by decide +kernel
set_option maxRecDepth 20000 in
theorem i_X1_init_X7 : ∀ w ∈ wsX70, w ∈ wsX1_init := by decide +kernel
theorem m_X1_init_l32 : Cond.methodLink RX1 32 yX7_init ∈ wsX1_init := by decide +kernel
theorem m_X1_init_j32 : Cond.instanceMethod yX7_init ∈ wsX1_init := by decide +kernel
set_option maxHeartbeats 4000000 in
set_option maxRecDepth 100000 in
/-- Machine(plan, policy) -/
theorem k_Machine_init (l : Launch) (D : va_G) (cA : Nat → ClassId) (E : hp_N) (sz : Nat) (g : hp_M) (hAO : ∀ A U H, E A U H → va_AO "WardenHouse$Strand" U) (pln pol : Nat) (h : Nat) (hh : g h = some (.inr (1, [.null, .null, .null, .null, .null, .null, .null, .null, .int 0, .int 0, .int 0, .int 0, .int 0, .int 0, .int 0, .int 0, .int 0, .int 0, .null, .int 0]))) : Met l yX1_init wsX1_init ({ frames := 4, cells := 90, slots := 3882, locals := 110 }) (hp_Pc D vwCl (hp_Tl cA) E sz g [.ref h, .ref pln, .ref pol]) (hp_Qv D vwCl (hp_Tl cA) sz g (fun u => hp_extX h g u ∧ ∃ a : Nat → Nat, u h = some (.inr (1, [.ref pln, .ref pol, .ref (a 2), .ref (a 3), .ref (a 4), .ref (a 5), .ref (a 6), .ref (a 7), .int 0, .int 0, .int 0, .int 0, .int 0, .int 0, .int 0, .int 0, .int 0, .int 0, .ref (a 18), .int 0])) ∧ pl_full 9 5 8 (K_Strand cA) cA g u (a 3))) 90 3882 (hp_A g sz) := by
  refine hp_ofW (cc := cX1_init) (maxL := 4) (ret := none) (by decide) rfl (Nat.le_of_ble_eq_true rfl) ?_
  intro pp ee ss mm bb mt cd ls cx hsz hw hl
  have hl : lv_has ls 4 [(0, .ref h), (1, .ref pln), (2, .ref pol)] := hl
  refine lv_aload_n cx.1 cx.2.1 dX1_init_0 rfl (lv_at hl 0 rfl) ?_
  refine W.objInit cx.1 cx.2.1 cx.2.2.2.2.1 (cx.2.2.2.2.2.1 _ m_X1_init_oi) (cx.2.2.2.2.2.1 _ m_X1_init_oj) (cx.2.2.2.2.2.1 _ m_X1_init_ok) rfl (by rw [cx.2.2.2.1]; exact hl.1) rfl dX1_init_1 (Nat.le_of_ble_eq_true rfl) (Nat.le_of_ble_eq_true rfl) ?_
  refine W.eq (g2 := F0 mm 4 ls []) rfl ?_
  refine lv_aload_n cx.1 cx.2.1 dX1_init_4 rfl (lv_at hl 0 rfl) ?_
  refine lv_aload_n cx.1 cx.2.1 dX1_init_5 rfl (lv_at hl 1 rfl) ?_
  refine hp_putF (C := RX1) (T := TX1) (N := 20) (ci := 1) (fs' := [.ref pln, .null, .null, .null, .null, .null, .null, .null, .int 0, .int 0, .int 0, .int 0, .int 0, .int 0, .int 0, .int 0, .int 0, .int 0, .null, .int 0]) cx hw i_X1_init_X1 tyX1_ok nmX1 rfl hh 0 (by decide) m_X1_init_f11 rfl rfl rfl rfl rfl (Nat.le_of_ble_eq_true rfl) rfl dX1_init_6 (fun g1 H locs eg1 hw => ?_)
  have f2 : g1 h = some (.inr (1, [.ref pln, .null, .null, .null, .null, .null, .null, .null, .int 0, .int 0, .int 0, .int 0, .int 0, .int 0, .int 0, .int 0, .int 0, .int 0, .null, .int 0])) := (by rw [eg1]; exact hp_up_self _ _ _)
  refine lv_aload_n cx.1 cx.2.1 dX1_init_9 rfl (lv_at hl 0 rfl) ?_
  refine lv_aload_n cx.1 cx.2.1 dX1_init_10 rfl (lv_at hl 2 rfl) ?_
  refine hp_putF (C := RX1) (T := TX1) (N := 20) (ci := 1) (fs' := [.ref pln, .ref pol, .null, .null, .null, .null, .null, .null, .int 0, .int 0, .int 0, .int 0, .int 0, .int 0, .int 0, .int 0, .int 0, .int 0, .null, .int 0]) cx hw i_X1_init_X1 tyX1_ok nmX1 rfl f2 1 (by decide) m_X1_init_f15 rfl rfl rfl rfl rfl (Nat.le_of_ble_eq_true rfl) rfl dX1_init_11 (fun g3 H locs eg3 hw => ?_)
  have f4 : g3 h = some (.inr (1, [.ref pln, .ref pol, .null, .null, .null, .null, .null, .null, .int 0, .int 0, .int 0, .int 0, .int 0, .int 0, .int 0, .int 0, .int 0, .int 0, .null, .int 0])) := (by rw [eg3]; exact hp_up_self _ _ _)
  refine lv_aload_n cx.1 cx.2.1 dX1_init_14 rfl (lv_at hl 0 rfl) ?_
  refine hp_new (C := RX0) (T := TX0) (N := 6) (ci := 0) (fs := [.null, .null, .null, .null, .null, .int 0]) cx hw i_X1_init_X0 tyX0_ok rfl m_X1_init_k19 m_X1_init_n0 m_X1_init_z0 nwX0 (by exact Nat.le_of_ble_eq_true rfl) (by exact Nat.le_of_ble_eq_true rfl) dX1_init_15 (fun q5 g6 H nq5 eg6 hw => ?_)
  have f7 : g6 q5 = some (.inr (0, [.null, .null, .null, .null, .null, .int 0])) := (by rw [eg6]; exact hp_up_self _ _ _)
  refine lv_dup cx.1 cx.2.1 dX1_init_18 rfl ?_
  refine hp_callIv (As := []) (rest := [.ref q5, .ref h]) cx hw (k_Contexts_init l D cA E _ g6  q5 f7) (cwI 0 cx.2.2.2.2.2.1 gX1_init_X0_init rfl rfl rfl (cx.2.2.2.2.2.1 _ m_X1_init_z0) (cx.2.2.2.2.2.1 _ m_X1_init_l21) (cx.2.2.2.2.2.1 _ m_X1_init_j21) rfl (by decide +kernel) ⟨Nat.le_of_ble_eq_true rfl, Nat.le_of_ble_eq_true rfl⟩) rfl hl.1 rfl (Nat.le_of_ble_eq_true rfl) dX1_init_19 ⟨Nat.le_of_ble_eq_true rfl, Nat.le_of_ble_eq_true rfl⟩ (fun u8 H locs hp10 hw => ?_)
  obtain ⟨hx12, a11, f13⟩ := hp10
  have f15 : g6 h = some (.inr (1, [.ref pln, .ref pol, .null, .null, .null, .null, .null, .null, .int 0, .int 0, .int 0, .int 0, .int 0, .int 0, .int 0, .int 0, .int 0, .int 0, .null, .int 0])) := (by rw [eg6]; exact (hp_up_ne _ _ (hp_neN f4 nq5)).trans f4)
  have f16 : u8 h = some (.inr (1, [.ref pln, .ref pol, .null, .null, .null, .null, .null, .null, .int 0, .int 0, .int 0, .int 0, .int 0, .int 0, .int 0, .int 0, .int 0, .int 0, .null, .int 0])) := hx12 _ _ (hp_neK f15 f7 (by decide)) f15
  refine hp_putF (C := RX1) (T := TX1) (N := 20) (ci := 1) (fs' := [.ref pln, .ref pol, .ref q5, .null, .null, .null, .null, .null, .int 0, .int 0, .int 0, .int 0, .int 0, .int 0, .int 0, .int 0, .int 0, .int 0, .null, .int 0]) cx hw i_X1_init_X1 tyX1_ok nmX1 rfl f16 2 (by decide) m_X1_init_f22 rfl rfl rfl rfl rfl (Nat.le_of_ble_eq_true rfl) rfl dX1_init_22 (fun g17 H locs eg17 hw => ?_)
  have f18 : g17 h = some (.inr (1, [.ref pln, .ref pol, .ref q5, .null, .null, .null, .null, .null, .int 0, .int 0, .int 0, .int 0, .int 0, .int 0, .int 0, .int 0, .int 0, .int 0, .null, .int 0])) := (by rw [eg17]; exact hp_up_self _ _ _)
  refine lv_aload_n cx.1 cx.2.1 dX1_init_25 rfl (lv_at hl 0 rfl) ?_
  refine lv_bipush (v := 8) cx.1 cx.2.1 dX1_init_26 (by decide) ?_
  refine hp_newq (N' := 8) cx hw m_X1_init_k26 (hAO _ _ _ hw.2.2.2.2.2) 5 rfl (by decide) (by decide) (by decide) (by exact Nat.le_of_ble_eq_true rfl) (by exact Nat.le_of_ble_eq_true rfl) dX1_init_28 (fun q19 g20 H nq19 eg20 hw => ?_)
  have f21 : g20 q19 = some (.inl (cA 5, 8, .inr (.inr (.inr (.inr (fun _ => none)))))) := (by rw [eg20]; exact hp_up_self _ _ _)
  have f22 : g20 h = some (.inr (1, [.ref pln, .ref pol, .ref q5, .null, .null, .null, .null, .null, .int 0, .int 0, .int 0, .int 0, .int 0, .int 0, .int 0, .int 0, .int 0, .int 0, .null, .int 0])) := (by rw [eg20]; exact (hp_up_ne _ _ (hp_neN f18 nq19)).trans f18)
  refine hp_putF (C := RX1) (T := TX1) (N := 20) (ci := 1) (fs' := [.ref pln, .ref pol, .ref q5, .ref q19, .null, .null, .null, .null, .int 0, .int 0, .int 0, .int 0, .int 0, .int 0, .int 0, .int 0, .int 0, .int 0, .null, .int 0]) cx hw i_X1_init_X1 tyX1_ok nmX1 rfl f22 3 (by decide) m_X1_init_f28 rfl rfl rfl rfl rfl (Nat.le_of_ble_eq_true rfl) rfl dX1_init_31 (fun g23 H locs eg23 hw => ?_)
  have f24 : g23 h = some (.inr (1, [.ref pln, .ref pol, .ref q5, .ref q19, .null, .null, .null, .null, .int 0, .int 0, .int 0, .int 0, .int 0, .int 0, .int 0, .int 0, .int 0, .int 0, .null, .int 0])) := (by rw [eg23]; exact hp_up_self _ _ _)
  refine lv_iconst (v := 0) cx.1 cx.2.1 dX1_init_34 (by decide) ?_
  refine lv_istore_n (lv' := [(3, .int 0), (0, .ref h), (1, .ref pln), (2, .ref pol)]) cx.1 cx.2.1 dX1_init_35 rfl hl (by decide) rfl (fun ls hl => ?_)
  have f25 : g23 q19 = some (.inl (cA 5, 8, .inr (.inr (.inr (.inr (fun _ => none)))))) := (by rw [eg23]; exact (hp_up_ne _ _ (hp_neAO f21 f22)).trans f21)
  have loop : ∀ (j i : Nat) (gi : hp_M) (H : Heap) (locs : List Loc) (ls : Array Slot), i + j = 8 → pl_inv 9 5 8 (K_Strand cA) cA g23 q19 i gi → hp_w D vwCl (hp_Tl cA) E (hp_A g sz) ss H locs gi → lv_has ls 4 [(3, .int (nI i)), (0, .ref h), (1, .ref pln), (2, .ref pol)] → W pp l ee ({ frames := 4, cells := 90, slots := 3882, locals := 110 }) ss mm [.ref h, .ref pln, .ref pol].toArray bb mt cd H locs ((1 + 8 + 1) + 9 * i) ((6 + 340 + 8) + 412 * i) (MQ bb (hp_Qv D vwCl (hp_Tl cA) sz g (fun u => hp_extX h g u ∧ ∃ a : Nat → Nat, u h = some (.inr (1, [.ref pln, .ref pol, .ref (a 2), .ref (a 3), .ref (a 4), .ref (a 5), .ref (a 6), .ref (a 7), .int 0, .int 0, .int 0, .int 0, .int 0, .int 0, .int 0, .int 0, .int 0, .int 0, .ref (a 18), .int 0])) ∧ pl_full 9 5 8 (K_Strand cA) cA g u (a 3))) [.ref h, .ref pln, .ref pol].toArray ss 90 3882 (hp_A g sz)) (F0 mm 36 ls []) := by
    intro j
    induction j with
    | zero =>
      intro i gi H locs ls hij hinv hw hl
      obtain ⟨row, P, h1, h2, h3, h4, h5⟩ := hinv
      have hi : i = 8 := by omega
      refine lv_iload_n cx.1 cx.2.1 dX1_init_36 rfl (lv_at hl 0 rfl) ?_
      refine lv_bipush (v := 8) cx.1 cx.2.1 dX1_init_37 (by decide) ?_
      refine lv_icmp_ge (tgt := 61) cx.1 cx.2.1 dX1_init_39 (by decide) (fun c39_26 => ?_) (fun c39_26 => ?_)
      rotate_left
      · exact absurd (by rw [hi]; decide) c39_26
      refine W.widen (k := 82) (n := 3650) (by omega) (by omega) ?_
      refine lv_aload_n cx.1 cx.2.1 dX1_init_61 rfl (lv_at hl 1 rfl) ?_
      refine lv_aload_n cx.1 cx.2.1 dX1_init_62 rfl (lv_at hl 1 rfl) ?_
      have f27 : gi h = some (.inr (1, [.ref pln, .ref pol, .ref q5, .ref q19, .null, .null, .null, .null, .int 0, .int 0, .int 0, .int 0, .int 0, .int 0, .int 0, .int 0, .int 0, .int 0, .null, .int 0])) := h4 _ _ (hp_neOA f24 f25) f24
      refine hp_get (C := RX1) (T := TX1) (N := 20) (ci := 1) cx hw i_X1_init_X1 rfl f27 3 (by decide) m_X1_init_f28 (v := .ref q19) rfl dX1_init_63 ?_
      refine lv_iconst (v := 0) cx.1 cx.2.1 dX1_init_66 (by decide) ?_
      refine hp_aald cx hw 5 h1 rfl (by unfold vp_in; decide) dX1_init_67 ?_
      have ht0 : va_rf (row (0 : Int32).toNatClampNeg) = .ref (P 0 0) := by rw [show ((0 : Int32).toNatClampNeg) = 0 from rfl, h2 0 (by omega)]; rfl
      rw [ht0]
      refine hp_put (C := RX1) (T := TX1) (N := 20) (ci := 1) (fs' := [.ref pln, .ref pol, .ref q5, .ref q19, .null, .null, .null, .null, .int 0, .int 0, .int 0, .int 0, .int 0, .int 0, .int 0, .int 0, .int 0, .int 0, .ref (P 0 0), .int 0]) cx hw i_X1_init_X1 tyX1_ok nmX1 rfl f27 18 (by decide) m_X1_init_f33 rfl  rfl rfl (Nat.le_of_ble_eq_true rfl) rfl dX1_init_68 (fun g28 H locs eg28 hw => ?_)
      have f29 : g28 h = some (.inr (1, [.ref pln, .ref pol, .ref q5, .ref q19, .null, .null, .null, .null, .int 0, .int 0, .int 0, .int 0, .int 0, .int 0, .int 0, .int 0, .int 0, .int 0, .ref (P 0 0), .int 0])) := (by rw [eg28]; exact hp_up_self _ _ _)
      refine lv_aload_n cx.1 cx.2.1 dX1_init_71 rfl (lv_at hl 1 rfl) ?_
      refine hp_new (C := RX6) (T := TX6) (N := 2) (ci := 6) (fs := [.null, .int 0]) cx hw i_X1_init_X6 tyX6_ok rfl m_X1_init_k37 m_X1_init_n6 m_X1_init_z6 nwX6 (by exact Nat.le_of_ble_eq_true rfl) (by exact Nat.le_of_ble_eq_true rfl) dX1_init_72 (fun q30 g31 H nq30 eg31 hw => ?_)
      have f32 : g31 q30 = some (.inr (6, [.null, .int 0])) := (by rw [eg31]; exact hp_up_self _ _ _)
      refine lv_dup cx.1 cx.2.1 dX1_init_75 rfl ?_
      refine lv_bipush (v := 48) cx.1 cx.2.1 dX1_init_76 (by decide) ?_
      refine hp_callIv (As := [.int 48]) (rest := [.ref q30, .ref h]) cx hw (k_Row_init l D cA E _ g31 q30 0 48 48 f32 (by decide) (by decide) (by decide)) (cwI 1 cx.2.2.2.2.2.1 gX1_init_X6_init rfl rfl rfl (cx.2.2.2.2.2.1 _ m_X1_init_z6) (cx.2.2.2.2.2.1 _ m_X1_init_l39) (cx.2.2.2.2.2.1 _ m_X1_init_j39) rfl (by decide +kernel) ⟨Nat.le_of_ble_eq_true rfl, Nat.le_of_ble_eq_true rfl⟩) rfl hl.1 rfl (Nat.le_of_ble_eq_true rfl) dX1_init_78 ⟨Nat.le_of_ble_eq_true rfl, Nat.le_of_ble_eq_true rfl⟩ (fun u33 H locs hp35 hw => ?_)
      obtain ⟨k36, g37, nk36, eg37, eu33⟩ := hp35
      have f38 : g37 k36 = some (.inl (cA 2, 48, .inr (.inl (fun _ => 0)))) := (by rw [eg37]; exact hp_up_self _ _ _)
      have f39 : u33 q30 = some (.inr (6, [.ref k36, .int 0])) := (by rw [eu33]; exact hp_up_self _ _ _)
      have f40 : g31 h = some (.inr (1, [.ref pln, .ref pol, .ref q5, .ref q19, .null, .null, .null, .null, .int 0, .int 0, .int 0, .int 0, .int 0, .int 0, .int 0, .int 0, .int 0, .int 0, .ref (P 0 0), .int 0])) := (by rw [eg31]; exact (hp_up_ne _ _ (hp_neN f29 nq30)).trans f29)
      have f41 : g37 h = some (.inr (1, [.ref pln, .ref pol, .ref q5, .ref q19, .null, .null, .null, .null, .int 0, .int 0, .int 0, .int 0, .int 0, .int 0, .int 0, .int 0, .int 0, .int 0, .ref (P 0 0), .int 0])) := (by rw [eg37]; exact (hp_up_ne _ _ (hp_neN f40 nk36)).trans f40)
      have f42 : u33 h = some (.inr (1, [.ref pln, .ref pol, .ref q5, .ref q19, .null, .null, .null, .null, .int 0, .int 0, .int 0, .int 0, .int 0, .int 0, .int 0, .int 0, .int 0, .int 0, .ref (P 0 0), .int 0])) := (by rw [eu33]; exact (hp_up_ne _ _ (hp_neN f29 nq30)).trans f41)
      refine hp_putF (C := RX1) (T := TX1) (N := 20) (ci := 1) (fs' := [.ref pln, .ref pol, .ref q5, .ref q19, .ref q30, .null, .null, .null, .int 0, .int 0, .int 0, .int 0, .int 0, .int 0, .int 0, .int 0, .int 0, .int 0, .ref (P 0 0), .int 0]) cx hw i_X1_init_X1 tyX1_ok nmX1 rfl f42 4 (by decide) m_X1_init_f42 rfl rfl rfl rfl rfl (Nat.le_of_ble_eq_true rfl) rfl dX1_init_81 (fun g43 H locs eg43 hw => ?_)
      have f44 : g43 h = some (.inr (1, [.ref pln, .ref pol, .ref q5, .ref q19, .ref q30, .null, .null, .null, .int 0, .int 0, .int 0, .int 0, .int 0, .int 0, .int 0, .int 0, .int 0, .int 0, .ref (P 0 0), .int 0])) := (by rw [eg43]; exact hp_up_self _ _ _)
      refine lv_aload_n cx.1 cx.2.1 dX1_init_84 rfl (lv_at hl 1 rfl) ?_
      refine hp_new (C := RX6) (T := TX6) (N := 2) (ci := 6) (fs := [.null, .int 0]) cx hw i_X1_init_X6 tyX6_ok rfl m_X1_init_k37 m_X1_init_n6 m_X1_init_z6 nwX6 (by exact Nat.le_of_ble_eq_true rfl) (by exact Nat.le_of_ble_eq_true rfl) dX1_init_85 (fun q45 g46 H nq45 eg46 hw => ?_)
      have f47 : g46 q45 = some (.inr (6, [.null, .int 0])) := (by rw [eg46]; exact hp_up_self _ _ _)
      refine lv_dup cx.1 cx.2.1 dX1_init_88 rfl ?_
      refine lv_bipush (v := 32) cx.1 cx.2.1 dX1_init_89 (by decide) ?_
      refine hp_callIv (As := [.int 32]) (rest := [.ref q45, .ref h]) cx hw (k_Row_init l D cA E _ g46 q45 0 32 32 f47 (by decide) (by decide) (by decide)) (cwI 1 cx.2.2.2.2.2.1 gX1_init_X6_init rfl rfl rfl (cx.2.2.2.2.2.1 _ m_X1_init_z6) (cx.2.2.2.2.2.1 _ m_X1_init_l39) (cx.2.2.2.2.2.1 _ m_X1_init_j39) rfl (by decide +kernel) ⟨Nat.le_of_ble_eq_true rfl, Nat.le_of_ble_eq_true rfl⟩) rfl hl.1 rfl (Nat.le_of_ble_eq_true rfl) dX1_init_91 ⟨Nat.le_of_ble_eq_true rfl, Nat.le_of_ble_eq_true rfl⟩ (fun u48 H locs hp50 hw => ?_)
      obtain ⟨k51, g52, nk51, eg52, eu48⟩ := hp50
      have f53 : g52 k51 = some (.inl (cA 2, 32, .inr (.inl (fun _ => 0)))) := (by rw [eg52]; exact hp_up_self _ _ _)
      have f54 : u48 q45 = some (.inr (6, [.ref k51, .int 0])) := (by rw [eu48]; exact hp_up_self _ _ _)
      have f55 : g46 h = some (.inr (1, [.ref pln, .ref pol, .ref q5, .ref q19, .ref q30, .null, .null, .null, .int 0, .int 0, .int 0, .int 0, .int 0, .int 0, .int 0, .int 0, .int 0, .int 0, .ref (P 0 0), .int 0])) := (by rw [eg46]; exact (hp_up_ne _ _ (hp_neN f44 nq45)).trans f44)
      have f56 : g52 h = some (.inr (1, [.ref pln, .ref pol, .ref q5, .ref q19, .ref q30, .null, .null, .null, .int 0, .int 0, .int 0, .int 0, .int 0, .int 0, .int 0, .int 0, .int 0, .int 0, .ref (P 0 0), .int 0])) := (by rw [eg52]; exact (hp_up_ne _ _ (hp_neN f55 nk51)).trans f55)
      have f57 : u48 h = some (.inr (1, [.ref pln, .ref pol, .ref q5, .ref q19, .ref q30, .null, .null, .null, .int 0, .int 0, .int 0, .int 0, .int 0, .int 0, .int 0, .int 0, .int 0, .int 0, .ref (P 0 0), .int 0])) := (by rw [eu48]; exact (hp_up_ne _ _ (hp_neN f44 nq45)).trans f56)
      refine hp_putF (C := RX1) (T := TX1) (N := 20) (ci := 1) (fs' := [.ref pln, .ref pol, .ref q5, .ref q19, .ref q30, .ref q45, .null, .null, .int 0, .int 0, .int 0, .int 0, .int 0, .int 0, .int 0, .int 0, .int 0, .int 0, .ref (P 0 0), .int 0]) cx hw i_X1_init_X1 tyX1_ok nmX1 rfl f57 5 (by decide) m_X1_init_f46 rfl rfl rfl rfl rfl (Nat.le_of_ble_eq_true rfl) rfl dX1_init_94 (fun g58 H locs eg58 hw => ?_)
      have f59 : g58 h = some (.inr (1, [.ref pln, .ref pol, .ref q5, .ref q19, .ref q30, .ref q45, .null, .null, .int 0, .int 0, .int 0, .int 0, .int 0, .int 0, .int 0, .int 0, .int 0, .int 0, .ref (P 0 0), .int 0])) := (by rw [eg58]; exact hp_up_self _ _ _)
      refine lv_aload_n cx.1 cx.2.1 dX1_init_97 rfl (lv_at hl 1 rfl) ?_
      refine hp_new (C := RX6) (T := TX6) (N := 2) (ci := 6) (fs := [.null, .int 0]) cx hw i_X1_init_X6 tyX6_ok rfl m_X1_init_k37 m_X1_init_n6 m_X1_init_z6 nwX6 (by exact Nat.le_of_ble_eq_true rfl) (by exact Nat.le_of_ble_eq_true rfl) dX1_init_98 (fun q60 g61 H nq60 eg61 hw => ?_)
      have f62 : g61 q60 = some (.inr (6, [.null, .int 0])) := (by rw [eg61]; exact hp_up_self _ _ _)
      refine lv_dup cx.1 cx.2.1 dX1_init_101 rfl ?_
      refine lv_bipush (v := 64) cx.1 cx.2.1 dX1_init_102 (by decide) ?_
      refine hp_callIv (As := [.int 64]) (rest := [.ref q60, .ref h]) cx hw (k_Row_init l D cA E _ g61 q60 0 64 64 f62 (by decide) (by decide) (by decide)) (cwI 1 cx.2.2.2.2.2.1 gX1_init_X6_init rfl rfl rfl (cx.2.2.2.2.2.1 _ m_X1_init_z6) (cx.2.2.2.2.2.1 _ m_X1_init_l39) (cx.2.2.2.2.2.1 _ m_X1_init_j39) rfl (by decide +kernel) ⟨Nat.le_of_ble_eq_true rfl, Nat.le_of_ble_eq_true rfl⟩) rfl hl.1 rfl (Nat.le_of_ble_eq_true rfl) dX1_init_104 ⟨Nat.le_of_ble_eq_true rfl, Nat.le_of_ble_eq_true rfl⟩ (fun u63 H locs hp65 hw => ?_)
      obtain ⟨k66, g67, nk66, eg67, eu63⟩ := hp65
      have f68 : g67 k66 = some (.inl (cA 2, 64, .inr (.inl (fun _ => 0)))) := (by rw [eg67]; exact hp_up_self _ _ _)
      have f69 : u63 q60 = some (.inr (6, [.ref k66, .int 0])) := (by rw [eu63]; exact hp_up_self _ _ _)
      have f70 : g61 h = some (.inr (1, [.ref pln, .ref pol, .ref q5, .ref q19, .ref q30, .ref q45, .null, .null, .int 0, .int 0, .int 0, .int 0, .int 0, .int 0, .int 0, .int 0, .int 0, .int 0, .ref (P 0 0), .int 0])) := (by rw [eg61]; exact (hp_up_ne _ _ (hp_neN f59 nq60)).trans f59)
      have f71 : g67 h = some (.inr (1, [.ref pln, .ref pol, .ref q5, .ref q19, .ref q30, .ref q45, .null, .null, .int 0, .int 0, .int 0, .int 0, .int 0, .int 0, .int 0, .int 0, .int 0, .int 0, .ref (P 0 0), .int 0])) := (by rw [eg67]; exact (hp_up_ne _ _ (hp_neN f70 nk66)).trans f70)
      have f72 : u63 h = some (.inr (1, [.ref pln, .ref pol, .ref q5, .ref q19, .ref q30, .ref q45, .null, .null, .int 0, .int 0, .int 0, .int 0, .int 0, .int 0, .int 0, .int 0, .int 0, .int 0, .ref (P 0 0), .int 0])) := (by rw [eu63]; exact (hp_up_ne _ _ (hp_neN f59 nq60)).trans f71)
      refine hp_putF (C := RX1) (T := TX1) (N := 20) (ci := 1) (fs' := [.ref pln, .ref pol, .ref q5, .ref q19, .ref q30, .ref q45, .ref q60, .null, .int 0, .int 0, .int 0, .int 0, .int 0, .int 0, .int 0, .int 0, .int 0, .int 0, .ref (P 0 0), .int 0]) cx hw i_X1_init_X1 tyX1_ok nmX1 rfl f72 6 (by decide) m_X1_init_f49 rfl rfl rfl rfl rfl (Nat.le_of_ble_eq_true rfl) rfl dX1_init_107 (fun g73 H locs eg73 hw => ?_)
      have f74 : g73 h = some (.inr (1, [.ref pln, .ref pol, .ref q5, .ref q19, .ref q30, .ref q45, .ref q60, .null, .int 0, .int 0, .int 0, .int 0, .int 0, .int 0, .int 0, .int 0, .int 0, .int 0, .ref (P 0 0), .int 0])) := (by rw [eg73]; exact hp_up_self _ _ _)
      refine lv_aload_n cx.1 cx.2.1 dX1_init_110 rfl (lv_at hl 1 rfl) ?_
      refine hp_new (C := RX6) (T := TX6) (N := 2) (ci := 6) (fs := [.null, .int 0]) cx hw i_X1_init_X6 tyX6_ok rfl m_X1_init_k37 m_X1_init_n6 m_X1_init_z6 nwX6 (by exact Nat.le_of_ble_eq_true rfl) (by exact Nat.le_of_ble_eq_true rfl) dX1_init_111 (fun q75 g76 H nq75 eg76 hw => ?_)
      have f77 : g76 q75 = some (.inr (6, [.null, .int 0])) := (by rw [eg76]; exact hp_up_self _ _ _)
      refine lv_dup cx.1 cx.2.1 dX1_init_114 rfl ?_
      refine lv_bipush (v := 80) cx.1 cx.2.1 dX1_init_115 (by decide) ?_
      refine hp_callIv (As := [.int 80]) (rest := [.ref q75, .ref h]) cx hw (k_Row_init l D cA E _ g76 q75 0 80 80 f77 (by decide) (by decide) (by decide)) (cwI 1 cx.2.2.2.2.2.1 gX1_init_X6_init rfl rfl rfl (cx.2.2.2.2.2.1 _ m_X1_init_z6) (cx.2.2.2.2.2.1 _ m_X1_init_l39) (cx.2.2.2.2.2.1 _ m_X1_init_j39) rfl (by decide +kernel) ⟨Nat.le_of_ble_eq_true rfl, Nat.le_of_ble_eq_true rfl⟩) rfl hl.1 rfl (Nat.le_of_ble_eq_true rfl) dX1_init_117 ⟨Nat.le_of_ble_eq_true rfl, Nat.le_of_ble_eq_true rfl⟩ (fun u78 H locs hp80 hw => ?_)
      obtain ⟨k81, g82, nk81, eg82, eu78⟩ := hp80
      have f83 : g82 k81 = some (.inl (cA 2, 80, .inr (.inl (fun _ => 0)))) := (by rw [eg82]; exact hp_up_self _ _ _)
      have f84 : u78 q75 = some (.inr (6, [.ref k81, .int 0])) := (by rw [eu78]; exact hp_up_self _ _ _)
      have f85 : g76 h = some (.inr (1, [.ref pln, .ref pol, .ref q5, .ref q19, .ref q30, .ref q45, .ref q60, .null, .int 0, .int 0, .int 0, .int 0, .int 0, .int 0, .int 0, .int 0, .int 0, .int 0, .ref (P 0 0), .int 0])) := (by rw [eg76]; exact (hp_up_ne _ _ (hp_neN f74 nq75)).trans f74)
      have f86 : g82 h = some (.inr (1, [.ref pln, .ref pol, .ref q5, .ref q19, .ref q30, .ref q45, .ref q60, .null, .int 0, .int 0, .int 0, .int 0, .int 0, .int 0, .int 0, .int 0, .int 0, .int 0, .ref (P 0 0), .int 0])) := (by rw [eg82]; exact (hp_up_ne _ _ (hp_neN f85 nk81)).trans f85)
      have f87 : u78 h = some (.inr (1, [.ref pln, .ref pol, .ref q5, .ref q19, .ref q30, .ref q45, .ref q60, .null, .int 0, .int 0, .int 0, .int 0, .int 0, .int 0, .int 0, .int 0, .int 0, .int 0, .ref (P 0 0), .int 0])) := (by rw [eu78]; exact (hp_up_ne _ _ (hp_neN f74 nq75)).trans f86)
      refine hp_putF (C := RX1) (T := TX1) (N := 20) (ci := 1) (fs' := [.ref pln, .ref pol, .ref q5, .ref q19, .ref q30, .ref q45, .ref q60, .ref q75, .int 0, .int 0, .int 0, .int 0, .int 0, .int 0, .int 0, .int 0, .int 0, .int 0, .ref (P 0 0), .int 0]) cx hw i_X1_init_X1 tyX1_ok nmX1 rfl f87 7 (by decide) m_X1_init_f52 rfl rfl rfl rfl rfl (Nat.le_of_ble_eq_true rfl) rfl dX1_init_120 (fun g88 H locs eg88 hw => ?_)
      have f89 : g88 h = some (.inr (1, [.ref pln, .ref pol, .ref q5, .ref q19, .ref q30, .ref q45, .ref q60, .ref q75, .int 0, .int 0, .int 0, .int 0, .int 0, .int 0, .int 0, .int 0, .int 0, .int 0, .ref (P 0 0), .int 0])) := (by rw [eg88]; exact hp_up_self _ _ _)
      have hxt : hp_extX h g g88 := by
        intro b e hb hg
        have b_g1 : g1 b = some e := by rw [eg1]; exact (hp_up_ne _ _ (hb)).trans hg
        have b_g3 : g3 b = some e := by rw [eg3]; exact (hp_up_ne _ _ (hb)).trans b_g1
        have b_g6 : g6 b = some e := by rw [eg6]; exact (hp_up_ne _ _ (hp_neN b_g3 nq5)).trans b_g3
        have b_u8 := hx12 b e (hp_neN hg (hp_up_none eg1 (hp_up_none eg3 (nq5)))) b_g6
        have b_g17 : g17 b = some e := by rw [eg17]; exact (hp_up_ne _ _ (hb)).trans b_u8
        have b_g20 : g20 b = some e := by rw [eg20]; exact (hp_up_ne _ _ (hp_neN b_g17 nq19)).trans b_g17
        have b_g23 : g23 b = some e := by rw [eg23]; exact (hp_up_ne _ _ (hb)).trans b_g20
        have b_gi := h4 b e (hp_neN hg (hp_up_none eg1 (hp_up_none eg3 (hp_up_none eg6 (hp_extX_none hx12 (f13) (hp_up_none eg17 (nq19))))))) b_g23
        have b_g28 : g28 b = some e := by rw [eg28]; exact (hp_up_ne _ _ (hb)).trans b_gi
        have b_g31 : g31 b = some e := by rw [eg31]; exact (hp_up_ne _ _ (hp_neN b_g28 nq30)).trans b_g28
        have b_g37 : g37 b = some e := by rw [eg37]; exact (hp_up_ne _ _ (hp_neN b_g31 nk36)).trans b_g31
        have b_u33 : u33 b = some e := by rw [eu33]; exact (hp_up_ne _ _ (hp_neN hg (hp_up_none eg1 (hp_up_none eg3 (hp_up_none eg6 (hp_extX_none hx12 (f13) (hp_up_none eg17 (hp_up_none eg20 (hp_up_none eg23 (hp_extX_none h4 (h1) (hp_up_none eg28 (nq30)))))))))))).trans b_g37
        have b_g43 : g43 b = some e := by rw [eg43]; exact (hp_up_ne _ _ (hb)).trans b_u33
        have b_g46 : g46 b = some e := by rw [eg46]; exact (hp_up_ne _ _ (hp_neN b_g43 nq45)).trans b_g43
        have b_g52 : g52 b = some e := by rw [eg52]; exact (hp_up_ne _ _ (hp_neN b_g46 nk51)).trans b_g46
        have b_u48 : u48 b = some e := by rw [eu48]; exact (hp_up_ne _ _ (hp_neN hg (hp_up_none eg1 (hp_up_none eg3 (hp_up_none eg6 (hp_extX_none hx12 (f13) (hp_up_none eg17 (hp_up_none eg20 (hp_up_none eg23 (hp_extX_none h4 (h1) (hp_up_none eg28 (hp_up_none eg31 (hp_up_none eg37 (hp_up_none eu33 (hp_up_none eg43 (nq45)))))))))))))))).trans b_g52
        have b_g58 : g58 b = some e := by rw [eg58]; exact (hp_up_ne _ _ (hb)).trans b_u48
        have b_g61 : g61 b = some e := by rw [eg61]; exact (hp_up_ne _ _ (hp_neN b_g58 nq60)).trans b_g58
        have b_g67 : g67 b = some e := by rw [eg67]; exact (hp_up_ne _ _ (hp_neN b_g61 nk66)).trans b_g61
        have b_u63 : u63 b = some e := by rw [eu63]; exact (hp_up_ne _ _ (hp_neN hg (hp_up_none eg1 (hp_up_none eg3 (hp_up_none eg6 (hp_extX_none hx12 (f13) (hp_up_none eg17 (hp_up_none eg20 (hp_up_none eg23 (hp_extX_none h4 (h1) (hp_up_none eg28 (hp_up_none eg31 (hp_up_none eg37 (hp_up_none eu33 (hp_up_none eg43 (hp_up_none eg46 (hp_up_none eg52 (hp_up_none eu48 (hp_up_none eg58 (nq60)))))))))))))))))))).trans b_g67
        have b_g73 : g73 b = some e := by rw [eg73]; exact (hp_up_ne _ _ (hb)).trans b_u63
        have b_g76 : g76 b = some e := by rw [eg76]; exact (hp_up_ne _ _ (hp_neN b_g73 nq75)).trans b_g73
        have b_g82 : g82 b = some e := by rw [eg82]; exact (hp_up_ne _ _ (hp_neN b_g76 nk81)).trans b_g76
        have b_u78 : u78 b = some e := by rw [eu78]; exact (hp_up_ne _ _ (hp_neN hg (hp_up_none eg1 (hp_up_none eg3 (hp_up_none eg6 (hp_extX_none hx12 (f13) (hp_up_none eg17 (hp_up_none eg20 (hp_up_none eg23 (hp_extX_none h4 (h1) (hp_up_none eg28 (hp_up_none eg31 (hp_up_none eg37 (hp_up_none eu33 (hp_up_none eg43 (hp_up_none eg46 (hp_up_none eg52 (hp_up_none eu48 (hp_up_none eg58 (hp_up_none eg61 (hp_up_none eg67 (hp_up_none eu63 (hp_up_none eg73 (nq75)))))))))))))))))))))))).trans b_g82
        have b_g88 : g88 b = some e := by rw [eg88]; exact (hp_up_ne _ _ (hb)).trans b_u78
        exact b_g88
      have yq : hp_extX h gi g88 := by
        intro b e hb hg
        have b_g28 : g28 b = some e := by rw [eg28]; exact (hp_up_ne _ _ (hb)).trans hg
        have b_g31 : g31 b = some e := by rw [eg31]; exact (hp_up_ne _ _ (hp_neN b_g28 nq30)).trans b_g28
        have b_g37 : g37 b = some e := by rw [eg37]; exact (hp_up_ne _ _ (hp_neN b_g31 nk36)).trans b_g31
        have b_u33 : u33 b = some e := by rw [eu33]; exact (hp_up_ne _ _ (hp_neN hg (hp_up_none eg28 (nq30)))).trans b_g37
        have b_g43 : g43 b = some e := by rw [eg43]; exact (hp_up_ne _ _ (hb)).trans b_u33
        have b_g46 : g46 b = some e := by rw [eg46]; exact (hp_up_ne _ _ (hp_neN b_g43 nq45)).trans b_g43
        have b_g52 : g52 b = some e := by rw [eg52]; exact (hp_up_ne _ _ (hp_neN b_g46 nk51)).trans b_g46
        have b_u48 : u48 b = some e := by rw [eu48]; exact (hp_up_ne _ _ (hp_neN hg (hp_up_none eg28 (hp_up_none eg31 (hp_up_none eg37 (hp_up_none eu33 (hp_up_none eg43 (nq45)))))))).trans b_g52
        have b_g58 : g58 b = some e := by rw [eg58]; exact (hp_up_ne _ _ (hb)).trans b_u48
        have b_g61 : g61 b = some e := by rw [eg61]; exact (hp_up_ne _ _ (hp_neN b_g58 nq60)).trans b_g58
        have b_g67 : g67 b = some e := by rw [eg67]; exact (hp_up_ne _ _ (hp_neN b_g61 nk66)).trans b_g61
        have b_u63 : u63 b = some e := by rw [eu63]; exact (hp_up_ne _ _ (hp_neN hg (hp_up_none eg28 (hp_up_none eg31 (hp_up_none eg37 (hp_up_none eu33 (hp_up_none eg43 (hp_up_none eg46 (hp_up_none eg52 (hp_up_none eu48 (hp_up_none eg58 (nq60)))))))))))).trans b_g67
        have b_g73 : g73 b = some e := by rw [eg73]; exact (hp_up_ne _ _ (hb)).trans b_u63
        have b_g76 : g76 b = some e := by rw [eg76]; exact (hp_up_ne _ _ (hp_neN b_g73 nq75)).trans b_g73
        have b_g82 : g82 b = some e := by rw [eg82]; exact (hp_up_ne _ _ (hp_neN b_g76 nk81)).trans b_g76
        have b_u78 : u78 b = some e := by rw [eu78]; exact (hp_up_ne _ _ (hp_neN hg (hp_up_none eg28 (hp_up_none eg31 (hp_up_none eg37 (hp_up_none eu33 (hp_up_none eg43 (hp_up_none eg46 (hp_up_none eg52 (hp_up_none eu48 (hp_up_none eg58 (hp_up_none eg61 (hp_up_none eg67 (hp_up_none eu63 (hp_up_none eg73 (nq75)))))))))))))))).trans b_g82
        have b_g88 : g88 b = some e := by rw [eg88]; exact (hp_up_ne _ _ (hb)).trans b_u78
        exact b_g88
      have fullq : pl_full 9 5 8 (K_Strand cA) cA g23 gi q19 := ⟨row, P, h1, by rw [← hi]; exact h2, by rw [← hi]; exact h3, fun a b ha hb => h5 a b (by omega) hb⟩
      have fullg := fullq.down (fun b hb => hp_up_none eg1 (hp_up_none eg3 (hp_up_none eg6 (hp_extX_none hx12 (f13) (hp_up_none eg17 (hp_up_none eg20 (hp_up_none eg23 (hb))))))))
      have fullu := fullg.extX hh (hp_up_none eg1 (hp_up_none eg3 (hp_up_none eg6 (hp_extX_none hx12 (f13) (hp_up_none eg17 (nq19)))))) yq
      exact hp_vret cx hw (⟨hxt, (fun k => match k with | 2 => q5 | 3 => q19 | 4 => q30 | 5 => q45 | 6 => q60 | 7 => q75 | 18 => (P 0 0) | _ => 0), f89, fullu⟩) dX1_init_123
    | succ j ih =>
      intro i gi H locs ls hij hinv hw hl
      obtain ⟨row, P, h1, h2, h3, h4, h5⟩ := hinv
      have hlt : i < 8 := by omega
      refine lv_iload_n cx.1 cx.2.1 dX1_init_36 rfl (lv_at hl 0 rfl) ?_
      refine lv_bipush (v := 8) cx.1 cx.2.1 dX1_init_37 (by decide) ?_
      refine lv_icmp_ge (tgt := 61) cx.1 cx.2.1 dX1_init_39 (by decide) (fun c39_90 => ?_) (fun c39_90 => ?_)
      · exact absurd c39_90 (show ¬ nI 8 ≤ nI i from nI_ge hlt (by decide))
      refine lv_aload_n cx.1 cx.2.1 dX1_init_42 rfl (lv_at hl 1 rfl) ?_
      have f91 : gi h = some (.inr (1, [.ref pln, .ref pol, .ref q5, .ref q19, .null, .null, .null, .null, .int 0, .int 0, .int 0, .int 0, .int 0, .int 0, .int 0, .int 0, .int 0, .int 0, .null, .int 0])) := h4 _ _ (hp_neOA f24 f25) f24
      refine hp_get (C := RX1) (T := TX1) (N := 20) (ci := 1) cx hw i_X1_init_X1 rfl f91 3 (by decide) m_X1_init_f28 (v := .ref q19) rfl dX1_init_43 ?_
      refine lv_iload_n cx.1 cx.2.1 dX1_init_46 rfl (lv_at hl 0 rfl) ?_
      refine hp_new (C := RX7) (T := TX7) (N := 18) (ci := 7) (fs := [.null, .null, .null, .null, .null, .null, .null, .int 0, .int 0, .int 0, .int 0, .int 0, .long 0, .int 0, .null, .int 0, .int 0, .int 0]) cx hw i_X1_init_X7 tyX7_ok rfl m_X1_init_k26 m_X1_init_n7 m_X1_init_z7 nwX7 (by (try dsimp only); omega) (by (try dsimp only); omega) dX1_init_47 (fun q92 g93 H nq92 eg93 hw => ?_)
      have f94 : g93 q92 = some (.inr (7, [.null, .null, .null, .null, .null, .null, .null, .int 0, .int 0, .int 0, .int 0, .int 0, .long 0, .int 0, .null, .int 0, .int 0, .int 0])) := (by rw [eg93]; exact hp_up_self _ _ _)
      refine lv_dup cx.1 cx.2.1 dX1_init_50 rfl ?_
      refine hp_callIv (As := []) (rest := [.ref q92, .int (nI i), .ref q19]) cx hw (k_Strand_init l D cA E _ g93 q92 f94) (cwI 0 cx.2.2.2.2.2.1 gX1_init_X7_init rfl rfl rfl (cx.2.2.2.2.2.1 _ m_X1_init_z7) (cx.2.2.2.2.2.1 _ m_X1_init_l32) (cx.2.2.2.2.2.1 _ m_X1_init_j32) rfl (by decide +kernel) ⟨Nat.le_of_ble_eq_true rfl, Nat.le_of_ble_eq_true rfl⟩) rfl hl.1 rfl (Nat.le_of_ble_eq_true rfl) dX1_init_51 ⟨by (try dsimp only); omega, by (try dsimp only); omega⟩ (fun u95 H locs hp97 hw => ?_)
      have hmu95 : pl_made 9 (K_Strand cA) q92 g93 u95 := hp97
      obtain ⟨p98, p980, p98i, p98n, p98j, p98x⟩ := hp97
      have f99 : u95 q92 = some (.inr (7, [.ref (p98 1), .ref (p98 2), .ref (p98 3), .ref (p98 4), .ref (p98 5), .ref (p98 6), .ref (p98 7), .int 0, .int 0, .int 0, .int 0, .int 0, .long 0, .int 0, .null, .int 0, .int 0, .int 0])) := by rw [← p980]; exact p98i 0 (by decide)
      have f100 : g93 q19 = some (.inl (cA 5, 8, .inr (.inr (.inr (.inr row))))) := (by rw [eg93]; exact (hp_up_ne _ _ (hp_neN h1 nq92)).trans h1)
      have f101 : u95 q19 = some (.inl (cA 5, 8, .inr (.inr (.inr (.inr row))))) := p98x _ _ (hp_neAO f100 f94) f100
      refine hp_aast (r := (RX7, TX7, 18)) cx hw 5 f101 rfl f99 rfl (vp_in_nI hlt (by decide)) dX1_init_54 (fun g102 H locs eg102 hw => ?_)
      have f103 : g102 q19 = some (.inl (cA 5, 8, .inr (.inr (.inr (.inr (va_up row (nI i).toNatClampNeg (some q92))))))) := (by rw [eg102]; exact hp_up_self _ _ _)
      refine lv_iinc (v := (nI (i + 1))) (lv' := [(3, .int (nI (i + 1))), (0, .ref h), (1, .ref pln), (2, .ref pol)]) cx.1 cx.2.1 dX1_init_55 hl (k := 0) rfl (nI_1 i) (by decide) rfl (fun ls hl => ?_)
      refine lv_goto (tgt := 36) cx.1 cx.2.1 dX1_init_58 (by decide) ?_
      refine W.widen (k := (1 + 8 + 1) + 9 * (i + 1)) (n := (6 + 340 + 8) + 412 * (i + 1)) (by omega) (by omega) ?_
      exact ih (i + 1) g102 H locs ls (by omega) (pl_inv.step h1 h2 h3 h4 h5 nq92 eg93 hmu95 (by rw [nI_clamp (by omega)]) eg102 (K_Strand_ne cA) (by decide)) hw (lv_sub hl [0, 1, 2, 3] rfl)
  refine W.widen (k := (1 + 8 + 1) + 9 * 0) (n := (6 + 340 + 8) + 412 * 0) (by omega) (by omega) ?_
  exact loop 8 0 g23 _ _ _ (by omega) (pl_inv.start f25) hw (lv_sub hl [0, 1, 2, 3] rfl)
