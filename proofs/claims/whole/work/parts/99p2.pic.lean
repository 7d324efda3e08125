set_option maxHeartbeats 4000000 in
set_option maxRecDepth 100000 in
/-- Plan(policy), whole -/
theorem k2_Plan_init (l : Launch) (D : va_G) (cA : Nat → ClassId) (E : hp_N) (sz : Nat) (g : hp_M) (hAO : ∀ A U H, E A U H → va_AO "WardenHouse$Unit" U) (pol : Nat) (h : Nat) (hh : g h = some (.inr (2, [.null, .null, .int 0, .null, .null, .null, .null, .null, .null, .null, .int 0, .null, .int 0, .null, .int 0, .null]))) : Met l yX2_init wsX2_init ({ frames := 3, cells := 491, slots := 7008, locals := 70 }) (hp_Pc D vwCl (hp_Tl cA) E sz g [.ref h, .ref pol]) (hp_Qv D vwCl (hp_Tl cA) sz g (fun u => ∃ (a : Nat → Nat) (P0 : Nat → Nat → Nat), nw h g u ((a 0) :: ((a 1) :: ((a 2) :: ((a 3) :: ((a 4) :: ((a 5) :: ((a 6) :: ((a 7) :: ((a 8) :: ((a 9) :: (plL 8 P0 60 ++ ((a 10) :: [])))))))))))) ∧ u h = some (.inr (2, [.ref pol, .ref (a 10), .int 0, .ref (a 9), .ref (a 8), .ref (a 7), .ref (a 6), .ref (a 5), .ref (a 4), .ref (a 3), .int 0, .ref (a 2), .int 0, .ref (a 1), .int 0, .ref (a 0)])) ∧ u (a 0) = some (.inl (cA 1, 400, .inl (fun _ => 0))) ∧ u (a 1) = some (.inl (cA 2, 400, .inr (.inl (fun _ => 0)))) ∧ u (a 2) = some (.inl (cA 1, 400, .inl (fun _ => 0))) ∧ u (a 3) = some (.inl (cA 1, 8, .inl (fun _ => 0))) ∧ u (a 4) = some (.inl (cA 1, 96, .inl (fun _ => 0))) ∧ u (a 5) = some (.inl (cA 1, 8, .inl (fun _ => 0))) ∧ u (a 6) = some (.inl (cA 1, 8, .inl (fun _ => 0))) ∧ u (a 7) = some (.inl (cA 2, 32, .inr (.inl (fun _ => 0)))) ∧ u (a 8) = some (.inl (cA 1, 8, .inl (fun _ => 0))) ∧ u (a 9) = some (.inl (cA 2, 8, .inr (.inl (fun _ => 0)))) ∧ u (a 10) = some (.inl (cA 6, 60, .inr (.inr (.inr (.inr (pl_row P0 60)))))) ∧ (∀ a, a < 60 → pl_is 8 (K_Unit cA) u (P0 a)))) 491 7008 (hp_A g sz) := by
  refine hp_ofW (cc := cX2_init) (maxL := 3) (ret := none) (by decide) rfl (Nat.le_of_ble_eq_true rfl) ?_
  intro pp ee ss mm bb mt cd ls cx hsz hw hl
  have hl : lv_has ls 3 [(0, .ref h), (1, .ref pol)] := hl
  have w_g : nw h g g [] := nw.rf (by rw [hh]; exact fun r => nomatch r)
  refine lv_aload_n cx.1 cx.2.1 dX2_init_0 rfl (lv_at hl 0 rfl) ?_
  refine W.objInit cx.1 cx.2.1 cx.2.2.2.2.1 (cx.2.2.2.2.2.1 _ m_X2_init_oi) (cx.2.2.2.2.2.1 _ m_X2_init_oj) (cx.2.2.2.2.2.1 _ m_X2_init_ok) rfl (by rw [cx.2.2.2.1]; exact hl.1) rfl dX2_init_1 (Nat.le_of_ble_eq_true rfl) (Nat.le_of_ble_eq_true rfl) ?_
  refine W.eq (g2 := F0 mm 4 ls []) rfl ?_
  refine lv_aload_n cx.1 cx.2.1 dX2_init_4 rfl (lv_at hl 0 rfl) ?_
  refine lv_aload_n cx.1 cx.2.1 dX2_init_5 rfl (lv_at hl 1 rfl) ?_
  refine hp_putF (C := RX2) (T := TX2) (N := 16) (ci := 2) (fs' := [.ref pol, .null, .int 0, .null, .null, .null, .null, .null, .null, .null, .int 0, .null, .int 0, .null, .int 0, .null]) cx hw i_X2_init_X2 tyX2_ok nmX2 rfl hh 0 (by decide) m_X2_init_f9 rfl rfl rfl rfl rfl (Nat.le_of_ble_eq_true rfl) rfl dX2_init_6 (fun g1 H locs eg1 hw => ?_)
  have f2 : g1 h = some (.inr (2, [.ref pol, .null, .int 0, .null, .null, .null, .null, .null, .null, .null, .int 0, .null, .int 0, .null, .int 0, .null])) := (by rw [eg1]; exact hp_up_self _ _ _)
  have w_g1 : nw h g g1 [] := w_g.put (Or.inl rfl) eg1
  refine lv_aload_n cx.1 cx.2.1 dX2_init_9 rfl (lv_at hl 0 rfl) ?_
  refine lv_bipush (v := 60) cx.1 cx.2.1 dX2_init_10 (by decide) ?_
  refine hp_newq (N' := 60) cx hw m_X2_init_k15 (hAO _ _ _ hw.2.2.2.2.2) 6 rfl (by decide) (by decide) (by decide) (by exact Nat.le_of_ble_eq_true rfl) (by exact Nat.le_of_ble_eq_true rfl) dX2_init_12 (fun q3 g4 H nq3 eg4 hw => ?_)
  have f5 : g4 q3 = some (.inl (cA 6, 60, .inr (.inr (.inr (.inr (fun _ => none)))))) := (by rw [eg4]; exact hp_up_self _ _ _)
  have w_g4 : nw h g g4 (q3 :: []) := w_g1.new nq3 eg4
  have f6 : g4 h = some (.inr (2, [.ref pol, .null, .int 0, .null, .null, .null, .null, .null, .null, .null, .int 0, .null, .int 0, .null, .int 0, .null])) := (by rw [eg4]; exact (hp_up_ne _ _ (hp_neN f2 nq3)).trans f2)
  refine hp_putF (C := RX2) (T := TX2) (N := 16) (ci := 2) (fs' := [.ref pol, .ref q3, .int 0, .null, .null, .null, .null, .null, .null, .null, .int 0, .null, .int 0, .null, .int 0, .null]) cx hw i_X2_init_X2 tyX2_ok nmX2 rfl f6 1 (by decide) m_X2_init_f17 rfl rfl rfl rfl rfl (Nat.le_of_ble_eq_true rfl) rfl dX2_init_15 (fun g7 H locs eg7 hw => ?_)
  have f8 : g7 h = some (.inr (2, [.ref pol, .ref q3, .int 0, .null, .null, .null, .null, .null, .null, .null, .int 0, .null, .int 0, .null, .int 0, .null])) := (by rw [eg7]; exact hp_up_self _ _ _)
  have w_g7 : nw h g g7 (q3 :: []) := w_g4.put (Or.inl rfl) eg7
  refine lv_iconst (v := 0) cx.1 cx.2.1 dX2_init_18 (by decide) ?_
  refine lv_istore_n (lv' := [(2, .int 0), (0, .ref h), (1, .ref pol)]) cx.1 cx.2.1 dX2_init_19 rfl hl (by decide) rfl (fun ls hl => ?_)
  have f9 : g7 q3 = some (.inl (cA 6, 60, .inr (.inr (.inr (.inr (fun _ => none)))))) := (by rw [eg7]; exact (hp_up_ne _ _ (hp_neAO f5 f6)).trans f5)
  have loop : ∀ (j i : Nat) (gi : hp_M) (H : Heap) (locs : List Loc) (ls : Array Slot), i + j = 60 → pl_fil 8 6 60 (K_Unit cA) cA g7 q3 i gi → hp_w D vwCl (hp_Tl cA) E (hp_A g sz) ss H locs gi → lv_has ls 3 [(2, .int (nI i)), (0, .ref h), (1, .ref pol)] → W pp l ee ({ frames := 3, cells := 491, slots := 7008, locals := 70 }) ss mm [.ref h, .ref pol].toArray bb mt cd H locs (1 + 8 * i) (60 + 93 * i) (MQ bb (hp_Qv D vwCl (hp_Tl cA) sz g (fun u => ∃ (a : Nat → Nat) (P0 : Nat → Nat → Nat), nw h g u ((a 0) :: ((a 1) :: ((a 2) :: ((a 3) :: ((a 4) :: ((a 5) :: ((a 6) :: ((a 7) :: ((a 8) :: ((a 9) :: (plL 8 P0 60 ++ ((a 10) :: [])))))))))))) ∧ u h = some (.inr (2, [.ref pol, .ref (a 10), .int 0, .ref (a 9), .ref (a 8), .ref (a 7), .ref (a 6), .ref (a 5), .ref (a 4), .ref (a 3), .int 0, .ref (a 2), .int 0, .ref (a 1), .int 0, .ref (a 0)])) ∧ u (a 0) = some (.inl (cA 1, 400, .inl (fun _ => 0))) ∧ u (a 1) = some (.inl (cA 2, 400, .inr (.inl (fun _ => 0)))) ∧ u (a 2) = some (.inl (cA 1, 400, .inl (fun _ => 0))) ∧ u (a 3) = some (.inl (cA 1, 8, .inl (fun _ => 0))) ∧ u (a 4) = some (.inl (cA 1, 96, .inl (fun _ => 0))) ∧ u (a 5) = some (.inl (cA 1, 8, .inl (fun _ => 0))) ∧ u (a 6) = some (.inl (cA 1, 8, .inl (fun _ => 0))) ∧ u (a 7) = some (.inl (cA 2, 32, .inr (.inl (fun _ => 0)))) ∧ u (a 8) = some (.inl (cA 1, 8, .inl (fun _ => 0))) ∧ u (a 9) = some (.inl (cA 2, 8, .inr (.inl (fun _ => 0)))) ∧ u (a 10) = some (.inl (cA 6, 60, .inr (.inr (.inr (.inr (pl_row P0 60)))))) ∧ (∀ a, a < 60 → pl_is 8 (K_Unit cA) u (P0 a)))) [.ref h, .ref pol].toArray ss 491 7008 (hp_A g sz)) (F0 mm 20 ls []) := by
    intro j
    induction j with
    | zero =>
      intro i gi H locs ls hij hinv hw hl
      obtain ⟨P, h1, h2, h4⟩ := hinv
      have hi : i = 60 := by omega
      rw [hi] at h1 h2 h4
      have w_gi : nw h g gi (plL 8 P 60 ++ (q3 :: [])) := w_g7.call (List.mem_cons_self) h4
      refine lv_iload_n cx.1 cx.2.1 dX2_init_20 rfl (lv_at hl 0 rfl) ?_
      refine lv_bipush (v := 60) cx.1 cx.2.1 dX2_init_21 (by decide) ?_
      refine lv_icmp_ge (tgt := 45) cx.1 cx.2.1 dX2_init_23 (by decide) (fun c23_10 => ?_) (fun c23_10 => ?_)
      rotate_left
      · exact absurd (by rw [hi]; decide) c23_10
      refine W.widen (k := 481) (n := 5640) (by omega) (by omega) ?_
      refine lv_aload_n cx.1 cx.2.1 dX2_init_45 rfl (lv_at hl 1 rfl) ?_
      refine lv_bipush (v := 8) cx.1 cx.2.1 dX2_init_46 (by decide) ?_
      refine hp_newa (atype := .long) (N' := 8) (a0 := (8, .inr (.inl (fun _ => 0)))) cx hw m_X2_init_a2 2 (ty := .long) rfl rfl (fun _ => rfl) (by decide) (by decide) (by decide) (by exact Nat.le_of_ble_eq_true rfl) (by exact Nat.le_of_ble_eq_true rfl) dX2_init_48 (fun q11 g12 H nq11 eg12 hw => ?_)
      have f13 : g12 q11 = some (.inl (cA 2, 8, .inr (.inl (fun _ => 0)))) := (by rw [eg12]; exact hp_up_self _ _ _)
      have w_g12 : nw h g g12 (q11 :: (plL 8 P 60 ++ (q3 :: []))) := w_gi.new nq11 eg12
      have f14 : gi h = some (.inr (2, [.ref pol, .ref q3, .int 0, .null, .null, .null, .null, .null, .null, .null, .int 0, .null, .int 0, .null, .int 0, .null])) := h4.2.2.1 _ _ (hp_neOA f8 f9) f8
      have f15 : g12 h = some (.inr (2, [.ref pol, .ref q3, .int 0, .null, .null, .null, .null, .null, .null, .null, .int 0, .null, .int 0, .null, .int 0, .null])) := (by rw [eg12]; exact (hp_up_ne _ _ (hp_neN f14 nq11)).trans f14)
      refine hp_putF (C := RX2) (T := TX2) (N := 16) (ci := 2) (fs' := [.ref pol, .ref q3, .int 0, .ref q11, .null, .null, .null, .null, .null, .null, .int 0, .null, .int 0, .null, .int 0, .null]) cx hw i_X2_init_X2 tyX2_ok nmX2 rfl f15 3 (by decide) m_X2_init_f22 rfl rfl rfl rfl rfl (Nat.le_of_ble_eq_true rfl) rfl dX2_init_50 (fun g16 H locs eg16 hw => ?_)
      have f17 : g16 h = some (.inr (2, [.ref pol, .ref q3, .int 0, .ref q11, .null, .null, .null, .null, .null, .null, .int 0, .null, .int 0, .null, .int 0, .null])) := (by rw [eg16]; exact hp_up_self _ _ _)
      have w_g16 : nw h g g16 (q11 :: (plL 8 P 60 ++ (q3 :: []))) := w_g12.put (Or.inl rfl) eg16
      refine lv_aload_n cx.1 cx.2.1 dX2_init_53 rfl (lv_at hl 1 rfl) ?_
      refine lv_bipush (v := 8) cx.1 cx.2.1 dX2_init_54 (by decide) ?_
      refine hp_newa (atype := .int) (N' := 8) (a0 := (8, .inl (fun _ => 0))) cx hw m_X2_init_a1 1 (ty := .int) rfl rfl (fun _ => rfl) (by decide) (by decide) (by decide) (by exact Nat.le_of_ble_eq_true rfl) (by exact Nat.le_of_ble_eq_true rfl) dX2_init_56 (fun q18 g19 H nq18 eg19 hw => ?_)
      have f20 : g19 q18 = some (.inl (cA 1, 8, .inl (fun _ => 0))) := (by rw [eg19]; exact hp_up_self _ _ _)
      have w_g19 : nw h g g19 (q18 :: (q11 :: (plL 8 P 60 ++ (q3 :: [])))) := w_g16.new nq18 eg19
      have f21 : g19 h = some (.inr (2, [.ref pol, .ref q3, .int 0, .ref q11, .null, .null, .null, .null, .null, .null, .int 0, .null, .int 0, .null, .int 0, .null])) := (by rw [eg19]; exact (hp_up_ne _ _ (hp_neN f17 nq18)).trans f17)
      refine hp_putF (C := RX2) (T := TX2) (N := 16) (ci := 2) (fs' := [.ref pol, .ref q3, .int 0, .ref q11, .ref q18, .null, .null, .null, .null, .null, .int 0, .null, .int 0, .null, .int 0, .null]) cx hw i_X2_init_X2 tyX2_ok nmX2 rfl f21 4 (by decide) m_X2_init_f26 rfl rfl rfl rfl rfl (Nat.le_of_ble_eq_true rfl) rfl dX2_init_58 (fun g22 H locs eg22 hw => ?_)
      have f23 : g22 h = some (.inr (2, [.ref pol, .ref q3, .int 0, .ref q11, .ref q18, .null, .null, .null, .null, .null, .int 0, .null, .int 0, .null, .int 0, .null])) := (by rw [eg22]; exact hp_up_self _ _ _)
      have w_g22 : nw h g g22 (q18 :: (q11 :: (plL 8 P 60 ++ (q3 :: [])))) := w_g19.put (Or.inl rfl) eg22
      refine lv_aload_n cx.1 cx.2.1 dX2_init_61 rfl (lv_at hl 1 rfl) ?_
      refine lv_bipush (v := 32) cx.1 cx.2.1 dX2_init_62 (by decide) ?_
      refine hp_newa (atype := .long) (N' := 32) (a0 := (32, .inr (.inl (fun _ => 0)))) cx hw m_X2_init_a2 2 (ty := .long) rfl rfl (fun _ => rfl) (by decide) (by decide) (by decide) (by exact Nat.le_of_ble_eq_true rfl) (by exact Nat.le_of_ble_eq_true rfl) dX2_init_64 (fun q24 g25 H nq24 eg25 hw => ?_)
      have f26 : g25 q24 = some (.inl (cA 2, 32, .inr (.inl (fun _ => 0)))) := (by rw [eg25]; exact hp_up_self _ _ _)
      have w_g25 : nw h g g25 (q24 :: (q18 :: (q11 :: (plL 8 P 60 ++ (q3 :: []))))) := w_g22.new nq24 eg25
      have f27 : g25 h = some (.inr (2, [.ref pol, .ref q3, .int 0, .ref q11, .ref q18, .null, .null, .null, .null, .null, .int 0, .null, .int 0, .null, .int 0, .null])) := (by rw [eg25]; exact (hp_up_ne _ _ (hp_neN f23 nq24)).trans f23)
      refine hp_putF (C := RX2) (T := TX2) (N := 16) (ci := 2) (fs' := [.ref pol, .ref q3, .int 0, .ref q11, .ref q18, .ref q24, .null, .null, .null, .null, .int 0, .null, .int 0, .null, .int 0, .null]) cx hw i_X2_init_X2 tyX2_ok nmX2 rfl f27 5 (by decide) m_X2_init_f30 rfl rfl rfl rfl rfl (Nat.le_of_ble_eq_true rfl) rfl dX2_init_66 (fun g28 H locs eg28 hw => ?_)
      have f29 : g28 h = some (.inr (2, [.ref pol, .ref q3, .int 0, .ref q11, .ref q18, .ref q24, .null, .null, .null, .null, .int 0, .null, .int 0, .null, .int 0, .null])) := (by rw [eg28]; exact hp_up_self _ _ _)
      have w_g28 : nw h g g28 (q24 :: (q18 :: (q11 :: (plL 8 P 60 ++ (q3 :: []))))) := w_g25.put (Or.inl rfl) eg28
      refine lv_aload_n cx.1 cx.2.1 dX2_init_69 rfl (lv_at hl 1 rfl) ?_
      refine lv_bipush (v := 8) cx.1 cx.2.1 dX2_init_70 (by decide) ?_
      refine hp_newa (atype := .int) (N' := 8) (a0 := (8, .inl (fun _ => 0))) cx hw m_X2_init_a1 1 (ty := .int) rfl rfl (fun _ => rfl) (by decide) (by decide) (by decide) (by exact Nat.le_of_ble_eq_true rfl) (by exact Nat.le_of_ble_eq_true rfl) dX2_init_72 (fun q30 g31 H nq30 eg31 hw => ?_)
      have f32 : g31 q30 = some (.inl (cA 1, 8, .inl (fun _ => 0))) := (by rw [eg31]; exact hp_up_self _ _ _)
      have w_g31 : nw h g g31 (q30 :: (q24 :: (q18 :: (q11 :: (plL 8 P 60 ++ (q3 :: [])))))) := w_g28.new nq30 eg31
      have f33 : g31 h = some (.inr (2, [.ref pol, .ref q3, .int 0, .ref q11, .ref q18, .ref q24, .null, .null, .null, .null, .int 0, .null, .int 0, .null, .int 0, .null])) := (by rw [eg31]; exact (hp_up_ne _ _ (hp_neN f29 nq30)).trans f29)
      refine hp_putF (C := RX2) (T := TX2) (N := 16) (ci := 2) (fs' := [.ref pol, .ref q3, .int 0, .ref q11, .ref q18, .ref q24, .ref q30, .null, .null, .null, .int 0, .null, .int 0, .null, .int 0, .null]) cx hw i_X2_init_X2 tyX2_ok nmX2 rfl f33 6 (by decide) m_X2_init_f33 rfl rfl rfl rfl rfl (Nat.le_of_ble_eq_true rfl) rfl dX2_init_74 (fun g34 H locs eg34 hw => ?_)
      have f35 : g34 h = some (.inr (2, [.ref pol, .ref q3, .int 0, .ref q11, .ref q18, .ref q24, .ref q30, .null, .null, .null, .int 0, .null, .int 0, .null, .int 0, .null])) := (by rw [eg34]; exact hp_up_self _ _ _)
      have w_g34 : nw h g g34 (q30 :: (q24 :: (q18 :: (q11 :: (plL 8 P 60 ++ (q3 :: [])))))) := w_g31.put (Or.inl rfl) eg34
      refine lv_aload_n cx.1 cx.2.1 dX2_init_77 rfl (lv_at hl 1 rfl) ?_
      refine lv_bipush (v := 8) cx.1 cx.2.1 dX2_init_78 (by decide) ?_
      refine hp_newa (atype := .int) (N' := 8) (a0 := (8, .inl (fun _ => 0))) cx hw m_X2_init_a1 1 (ty := .int) rfl rfl (fun _ => rfl) (by decide) (by decide) (by decide) (by exact Nat.le_of_ble_eq_true rfl) (by exact Nat.le_of_ble_eq_true rfl) dX2_init_80 (fun q36 g37 H nq36 eg37 hw => ?_)
      have f38 : g37 q36 = some (.inl (cA 1, 8, .inl (fun _ => 0))) := (by rw [eg37]; exact hp_up_self _ _ _)
      have w_g37 : nw h g g37 (q36 :: (q30 :: (q24 :: (q18 :: (q11 :: (plL 8 P 60 ++ (q3 :: []))))))) := w_g34.new nq36 eg37
      have f39 : g37 h = some (.inr (2, [.ref pol, .ref q3, .int 0, .ref q11, .ref q18, .ref q24, .ref q30, .null, .null, .null, .int 0, .null, .int 0, .null, .int 0, .null])) := (by rw [eg37]; exact (hp_up_ne _ _ (hp_neN f35 nq36)).trans f35)
      refine hp_putF (C := RX2) (T := TX2) (N := 16) (ci := 2) (fs' := [.ref pol, .ref q3, .int 0, .ref q11, .ref q18, .ref q24, .ref q30, .ref q36, .null, .null, .int 0, .null, .int 0, .null, .int 0, .null]) cx hw i_X2_init_X2 tyX2_ok nmX2 rfl f39 7 (by decide) m_X2_init_f36 rfl rfl rfl rfl rfl (Nat.le_of_ble_eq_true rfl) rfl dX2_init_82 (fun g40 H locs eg40 hw => ?_)
      have f41 : g40 h = some (.inr (2, [.ref pol, .ref q3, .int 0, .ref q11, .ref q18, .ref q24, .ref q30, .ref q36, .null, .null, .int 0, .null, .int 0, .null, .int 0, .null])) := (by rw [eg40]; exact hp_up_self _ _ _)
      have w_g40 : nw h g g40 (q36 :: (q30 :: (q24 :: (q18 :: (q11 :: (plL 8 P 60 ++ (q3 :: []))))))) := w_g37.put (Or.inl rfl) eg40
      refine lv_aload_n cx.1 cx.2.1 dX2_init_85 rfl (lv_at hl 1 rfl) ?_
      refine lv_bipush (v := 96) cx.1 cx.2.1 dX2_init_86 (by decide) ?_
      refine hp_newa (atype := .int) (N' := 96) (a0 := (96, .inl (fun _ => 0))) cx hw m_X2_init_a1 1 (ty := .int) rfl rfl (fun _ => rfl) (by decide) (by decide) (by decide) (by exact Nat.le_of_ble_eq_true rfl) (by exact Nat.le_of_ble_eq_true rfl) dX2_init_88 (fun q42 g43 H nq42 eg43 hw => ?_)
      have f44 : g43 q42 = some (.inl (cA 1, 96, .inl (fun _ => 0))) := (by rw [eg43]; exact hp_up_self _ _ _)
      have w_g43 : nw h g g43 (q42 :: (q36 :: (q30 :: (q24 :: (q18 :: (q11 :: (plL 8 P 60 ++ (q3 :: [])))))))) := w_g40.new nq42 eg43
      have f45 : g43 h = some (.inr (2, [.ref pol, .ref q3, .int 0, .ref q11, .ref q18, .ref q24, .ref q30, .ref q36, .null, .null, .int 0, .null, .int 0, .null, .int 0, .null])) := (by rw [eg43]; exact (hp_up_ne _ _ (hp_neN f41 nq42)).trans f41)
      refine hp_putF (C := RX2) (T := TX2) (N := 16) (ci := 2) (fs' := [.ref pol, .ref q3, .int 0, .ref q11, .ref q18, .ref q24, .ref q30, .ref q36, .ref q42, .null, .int 0, .null, .int 0, .null, .int 0, .null]) cx hw i_X2_init_X2 tyX2_ok nmX2 rfl f45 8 (by decide) m_X2_init_f39 rfl rfl rfl rfl rfl (Nat.le_of_ble_eq_true rfl) rfl dX2_init_90 (fun g46 H locs eg46 hw => ?_)
      have f47 : g46 h = some (.inr (2, [.ref pol, .ref q3, .int 0, .ref q11, .ref q18, .ref q24, .ref q30, .ref q36, .ref q42, .null, .int 0, .null, .int 0, .null, .int 0, .null])) := (by rw [eg46]; exact hp_up_self _ _ _)
      have w_g46 : nw h g g46 (q42 :: (q36 :: (q30 :: (q24 :: (q18 :: (q11 :: (plL 8 P 60 ++ (q3 :: [])))))))) := w_g43.put (Or.inl rfl) eg46
      refine lv_aload_n cx.1 cx.2.1 dX2_init_93 rfl (lv_at hl 1 rfl) ?_
      refine lv_bipush (v := 8) cx.1 cx.2.1 dX2_init_94 (by decide) ?_
      refine hp_newa (atype := .int) (N' := 8) (a0 := (8, .inl (fun _ => 0))) cx hw m_X2_init_a1 1 (ty := .int) rfl rfl (fun _ => rfl) (by decide) (by decide) (by decide) (by exact Nat.le_of_ble_eq_true rfl) (by exact Nat.le_of_ble_eq_true rfl) dX2_init_96 (fun q48 g49 H nq48 eg49 hw => ?_)
      have f50 : g49 q48 = some (.inl (cA 1, 8, .inl (fun _ => 0))) := (by rw [eg49]; exact hp_up_self _ _ _)
      have w_g49 : nw h g g49 (q48 :: (q42 :: (q36 :: (q30 :: (q24 :: (q18 :: (q11 :: (plL 8 P 60 ++ (q3 :: []))))))))) := w_g46.new nq48 eg49
      have f51 : g49 h = some (.inr (2, [.ref pol, .ref q3, .int 0, .ref q11, .ref q18, .ref q24, .ref q30, .ref q36, .ref q42, .null, .int 0, .null, .int 0, .null, .int 0, .null])) := (by rw [eg49]; exact (hp_up_ne _ _ (hp_neN f47 nq48)).trans f47)
      refine hp_putF (C := RX2) (T := TX2) (N := 16) (ci := 2) (fs' := [.ref pol, .ref q3, .int 0, .ref q11, .ref q18, .ref q24, .ref q30, .ref q36, .ref q42, .ref q48, .int 0, .null, .int 0, .null, .int 0, .null]) cx hw i_X2_init_X2 tyX2_ok nmX2 rfl f51 9 (by decide) m_X2_init_f42 rfl rfl rfl rfl rfl (Nat.le_of_ble_eq_true rfl) rfl dX2_init_98 (fun g52 H locs eg52 hw => ?_)
      have f53 : g52 h = some (.inr (2, [.ref pol, .ref q3, .int 0, .ref q11, .ref q18, .ref q24, .ref q30, .ref q36, .ref q42, .ref q48, .int 0, .null, .int 0, .null, .int 0, .null])) := (by rw [eg52]; exact hp_up_self _ _ _)
      have w_g52 : nw h g g52 (q48 :: (q42 :: (q36 :: (q30 :: (q24 :: (q18 :: (q11 :: (plL 8 P 60 ++ (q3 :: []))))))))) := w_g49.put (Or.inl rfl) eg52
      refine lv_aload_n cx.1 cx.2.1 dX2_init_101 rfl (lv_at hl 1 rfl) ?_
      refine lv_sipush (v := 400) cx.1 cx.2.1 dX2_init_102 (by decide) ?_
      refine hp_newa (atype := .int) (N' := 400) (a0 := (400, .inl (fun _ => 0))) cx hw m_X2_init_a1 1 (ty := .int) rfl rfl (fun _ => rfl) (by decide) (by decide) (by decide) (by exact Nat.le_of_ble_eq_true rfl) (by exact Nat.le_of_ble_eq_true rfl) dX2_init_105 (fun q54 g55 H nq54 eg55 hw => ?_)
      have f56 : g55 q54 = some (.inl (cA 1, 400, .inl (fun _ => 0))) := (by rw [eg55]; exact hp_up_self _ _ _)
      have w_g55 : nw h g g55 (q54 :: (q48 :: (q42 :: (q36 :: (q30 :: (q24 :: (q18 :: (q11 :: (plL 8 P 60 ++ (q3 :: [])))))))))) := w_g52.new nq54 eg55
      have f57 : g55 h = some (.inr (2, [.ref pol, .ref q3, .int 0, .ref q11, .ref q18, .ref q24, .ref q30, .ref q36, .ref q42, .ref q48, .int 0, .null, .int 0, .null, .int 0, .null])) := (by rw [eg55]; exact (hp_up_ne _ _ (hp_neN f53 nq54)).trans f53)
      refine hp_putF (C := RX2) (T := TX2) (N := 16) (ci := 2) (fs' := [.ref pol, .ref q3, .int 0, .ref q11, .ref q18, .ref q24, .ref q30, .ref q36, .ref q42, .ref q48, .int 0, .ref q54, .int 0, .null, .int 0, .null]) cx hw i_X2_init_X2 tyX2_ok nmX2 rfl f57 11 (by decide) m_X2_init_f45 rfl rfl rfl rfl rfl (Nat.le_of_ble_eq_true rfl) rfl dX2_init_107 (fun g58 H locs eg58 hw => ?_)
      have f59 : g58 h = some (.inr (2, [.ref pol, .ref q3, .int 0, .ref q11, .ref q18, .ref q24, .ref q30, .ref q36, .ref q42, .ref q48, .int 0, .ref q54, .int 0, .null, .int 0, .null])) := (by rw [eg58]; exact hp_up_self _ _ _)
      have w_g58 : nw h g g58 (q54 :: (q48 :: (q42 :: (q36 :: (q30 :: (q24 :: (q18 :: (q11 :: (plL 8 P 60 ++ (q3 :: [])))))))))) := w_g55.put (Or.inl rfl) eg58
      refine lv_aload_n cx.1 cx.2.1 dX2_init_110 rfl (lv_at hl 1 rfl) ?_
      refine lv_sipush (v := 400) cx.1 cx.2.1 dX2_init_111 (by decide) ?_
      refine hp_newa (atype := .long) (N' := 400) (a0 := (400, .inr (.inl (fun _ => 0)))) cx hw m_X2_init_a2 2 (ty := .long) rfl rfl (fun _ => rfl) (by decide) (by decide) (by decide) (by exact Nat.le_of_ble_eq_true rfl) (by exact Nat.le_of_ble_eq_true rfl) dX2_init_114 (fun q60 g61 H nq60 eg61 hw => ?_)
      have f62 : g61 q60 = some (.inl (cA 2, 400, .inr (.inl (fun _ => 0)))) := (by rw [eg61]; exact hp_up_self _ _ _)
      have w_g61 : nw h g g61 (q60 :: (q54 :: (q48 :: (q42 :: (q36 :: (q30 :: (q24 :: (q18 :: (q11 :: (plL 8 P 60 ++ (q3 :: []))))))))))) := w_g58.new nq60 eg61
      have f63 : g61 h = some (.inr (2, [.ref pol, .ref q3, .int 0, .ref q11, .ref q18, .ref q24, .ref q30, .ref q36, .ref q42, .ref q48, .int 0, .ref q54, .int 0, .null, .int 0, .null])) := (by rw [eg61]; exact (hp_up_ne _ _ (hp_neN f59 nq60)).trans f59)
      refine hp_putF (C := RX2) (T := TX2) (N := 16) (ci := 2) (fs' := [.ref pol, .ref q3, .int 0, .ref q11, .ref q18, .ref q24, .ref q30, .ref q36, .ref q42, .ref q48, .int 0, .ref q54, .int 0, .ref q60, .int 0, .null]) cx hw i_X2_init_X2 tyX2_ok nmX2 rfl f63 13 (by decide) m_X2_init_f48 rfl rfl rfl rfl rfl (Nat.le_of_ble_eq_true rfl) rfl dX2_init_116 (fun g64 H locs eg64 hw => ?_)
      have f65 : g64 h = some (.inr (2, [.ref pol, .ref q3, .int 0, .ref q11, .ref q18, .ref q24, .ref q30, .ref q36, .ref q42, .ref q48, .int 0, .ref q54, .int 0, .ref q60, .int 0, .null])) := (by rw [eg64]; exact hp_up_self _ _ _)
      have w_g64 : nw h g g64 (q60 :: (q54 :: (q48 :: (q42 :: (q36 :: (q30 :: (q24 :: (q18 :: (q11 :: (plL 8 P 60 ++ (q3 :: []))))))))))) := w_g61.put (Or.inl rfl) eg64
      refine lv_aload_n cx.1 cx.2.1 dX2_init_119 rfl (lv_at hl 1 rfl) ?_
      refine lv_sipush (v := 400) cx.1 cx.2.1 dX2_init_120 (by decide) ?_
      refine hp_newa (atype := .int) (N' := 400) (a0 := (400, .inl (fun _ => 0))) cx hw m_X2_init_a1 1 (ty := .int) rfl rfl (fun _ => rfl) (by decide) (by decide) (by decide) (by exact Nat.le_of_ble_eq_true rfl) (by exact Nat.le_of_ble_eq_true rfl) dX2_init_123 (fun q66 g67 H nq66 eg67 hw => ?_)
      have f68 : g67 q66 = some (.inl (cA 1, 400, .inl (fun _ => 0))) := (by rw [eg67]; exact hp_up_self _ _ _)
      have w_g67 : nw h g g67 (q66 :: (q60 :: (q54 :: (q48 :: (q42 :: (q36 :: (q30 :: (q24 :: (q18 :: (q11 :: (plL 8 P 60 ++ (q3 :: [])))))))))))) := w_g64.new nq66 eg67
      have f69 : g67 h = some (.inr (2, [.ref pol, .ref q3, .int 0, .ref q11, .ref q18, .ref q24, .ref q30, .ref q36, .ref q42, .ref q48, .int 0, .ref q54, .int 0, .ref q60, .int 0, .null])) := (by rw [eg67]; exact (hp_up_ne _ _ (hp_neN f65 nq66)).trans f65)
      refine hp_putF (C := RX2) (T := TX2) (N := 16) (ci := 2) (fs' := [.ref pol, .ref q3, .int 0, .ref q11, .ref q18, .ref q24, .ref q30, .ref q36, .ref q42, .ref q48, .int 0, .ref q54, .int 0, .ref q60, .int 0, .ref q66]) cx hw i_X2_init_X2 tyX2_ok nmX2 rfl f69 15 (by decide) m_X2_init_f51 rfl rfl rfl rfl rfl (Nat.le_of_ble_eq_true rfl) rfl dX2_init_125 (fun g70 H locs eg70 hw => ?_)
      have f71 : g70 h = some (.inr (2, [.ref pol, .ref q3, .int 0, .ref q11, .ref q18, .ref q24, .ref q30, .ref q36, .ref q42, .ref q48, .int 0, .ref q54, .int 0, .ref q60, .int 0, .ref q66])) := (by rw [eg70]; exact hp_up_self _ _ _)
      have w_g70 : nw h g g70 (q66 :: (q60 :: (q54 :: (q48 :: (q42 :: (q36 :: (q30 :: (q24 :: (q18 :: (q11 :: (plL 8 P 60 ++ (q3 :: [])))))))))))) := w_g67.put (Or.inl rfl) eg70
      have f72 : g70 q66 = some (.inl (cA 1, 400, .inl (fun _ => 0))) := (by rw [eg70]; exact (hp_up_ne _ _ (hp_neAO f68 f69)).trans f68)
      have f73 : g64 q60 = some (.inl (cA 2, 400, .inr (.inl (fun _ => 0)))) := (by rw [eg64]; exact (hp_up_ne _ _ (hp_neAO f62 f63)).trans f62)
      have f74 : g67 q60 = some (.inl (cA 2, 400, .inr (.inl (fun _ => 0)))) := (by rw [eg67]; exact (hp_up_ne _ _ (hp_neN f73 nq66)).trans f73)
      have f75 : g70 q60 = some (.inl (cA 2, 400, .inr (.inl (fun _ => 0)))) := (by rw [eg70]; exact (hp_up_ne _ _ (hp_neAO f74 f69)).trans f74)
      have f76 : g58 q54 = some (.inl (cA 1, 400, .inl (fun _ => 0))) := (by rw [eg58]; exact (hp_up_ne _ _ (hp_neAO f56 f57)).trans f56)
      have f77 : g61 q54 = some (.inl (cA 1, 400, .inl (fun _ => 0))) := (by rw [eg61]; exact (hp_up_ne _ _ (hp_neN f76 nq60)).trans f76)
      have f78 : g64 q54 = some (.inl (cA 1, 400, .inl (fun _ => 0))) := (by rw [eg64]; exact (hp_up_ne _ _ (hp_neAO f77 f63)).trans f77)
      have f79 : g67 q54 = some (.inl (cA 1, 400, .inl (fun _ => 0))) := (by rw [eg67]; exact (hp_up_ne _ _ (hp_neN f78 nq66)).trans f78)
      have f80 : g70 q54 = some (.inl (cA 1, 400, .inl (fun _ => 0))) := (by rw [eg70]; exact (hp_up_ne _ _ (hp_neAO f79 f69)).trans f79)
      have f81 : g52 q48 = some (.inl (cA 1, 8, .inl (fun _ => 0))) := (by rw [eg52]; exact (hp_up_ne _ _ (hp_neAO f50 f51)).trans f50)
      have f82 : g55 q48 = some (.inl (cA 1, 8, .inl (fun _ => 0))) := (by rw [eg55]; exact (hp_up_ne _ _ (hp_neN f81 nq54)).trans f81)
      have f83 : g58 q48 = some (.inl (cA 1, 8, .inl (fun _ => 0))) := (by rw [eg58]; exact (hp_up_ne _ _ (hp_neAO f82 f57)).trans f82)
      have f84 : g61 q48 = some (.inl (cA 1, 8, .inl (fun _ => 0))) := (by rw [eg61]; exact (hp_up_ne _ _ (hp_neN f83 nq60)).trans f83)
      have f85 : g64 q48 = some (.inl (cA 1, 8, .inl (fun _ => 0))) := (by rw [eg64]; exact (hp_up_ne _ _ (hp_neAO f84 f63)).trans f84)
      have f86 : g67 q48 = some (.inl (cA 1, 8, .inl (fun _ => 0))) := (by rw [eg67]; exact (hp_up_ne _ _ (hp_neN f85 nq66)).trans f85)
      have f87 : g70 q48 = some (.inl (cA 1, 8, .inl (fun _ => 0))) := (by rw [eg70]; exact (hp_up_ne _ _ (hp_neAO f86 f69)).trans f86)
      have f88 : g46 q42 = some (.inl (cA 1, 96, .inl (fun _ => 0))) := (by rw [eg46]; exact (hp_up_ne _ _ (hp_neAO f44 f45)).trans f44)
      have f89 : g49 q42 = some (.inl (cA 1, 96, .inl (fun _ => 0))) := (by rw [eg49]; exact (hp_up_ne _ _ (hp_neN f88 nq48)).trans f88)
      have f90 : g52 q42 = some (.inl (cA 1, 96, .inl (fun _ => 0))) := (by rw [eg52]; exact (hp_up_ne _ _ (hp_neAO f89 f51)).trans f89)
      have f91 : g55 q42 = some (.inl (cA 1, 96, .inl (fun _ => 0))) := (by rw [eg55]; exact (hp_up_ne _ _ (hp_neN f90 nq54)).trans f90)
      have f92 : g58 q42 = some (.inl (cA 1, 96, .inl (fun _ => 0))) := (by rw [eg58]; exact (hp_up_ne _ _ (hp_neAO f91 f57)).trans f91)
      have f93 : g61 q42 = some (.inl (cA 1, 96, .inl (fun _ => 0))) := (by rw [eg61]; exact (hp_up_ne _ _ (hp_neN f92 nq60)).trans f92)
      have f94 : g64 q42 = some (.inl (cA 1, 96, .inl (fun _ => 0))) := (by rw [eg64]; exact (hp_up_ne _ _ (hp_neAO f93 f63)).trans f93)
      have f95 : g67 q42 = some (.inl (cA 1, 96, .inl (fun _ => 0))) := (by rw [eg67]; exact (hp_up_ne _ _ (hp_neN f94 nq66)).trans f94)
      have f96 : g70 q42 = some (.inl (cA 1, 96, .inl (fun _ => 0))) := (by rw [eg70]; exact (hp_up_ne _ _ (hp_neAO f95 f69)).trans f95)
      have f97 : g40 q36 = some (.inl (cA 1, 8, .inl (fun _ => 0))) := (by rw [eg40]; exact (hp_up_ne _ _ (hp_neAO f38 f39)).trans f38)
      have f98 : g43 q36 = some (.inl (cA 1, 8, .inl (fun _ => 0))) := (by rw [eg43]; exact (hp_up_ne _ _ (hp_neN f97 nq42)).trans f97)
      have f99 : g46 q36 = some (.inl (cA 1, 8, .inl (fun _ => 0))) := (by rw [eg46]; exact (hp_up_ne _ _ (hp_neAO f98 f45)).trans f98)
      have f100 : g49 q36 = some (.inl (cA 1, 8, .inl (fun _ => 0))) := (by rw [eg49]; exact (hp_up_ne _ _ (hp_neN f99 nq48)).trans f99)
      have f101 : g52 q36 = some (.inl (cA 1, 8, .inl (fun _ => 0))) := (by rw [eg52]; exact (hp_up_ne _ _ (hp_neAO f100 f51)).trans f100)
      have f102 : g55 q36 = some (.inl (cA 1, 8, .inl (fun _ => 0))) := (by rw [eg55]; exact (hp_up_ne _ _ (hp_neN f101 nq54)).trans f101)
      have f103 : g58 q36 = some (.inl (cA 1, 8, .inl (fun _ => 0))) := (by rw [eg58]; exact (hp_up_ne _ _ (hp_neAO f102 f57)).trans f102)
      have f104 : g61 q36 = some (.inl (cA 1, 8, .inl (fun _ => 0))) := (by rw [eg61]; exact (hp_up_ne _ _ (hp_neN f103 nq60)).trans f103)
      have f105 : g64 q36 = some (.inl (cA 1, 8, .inl (fun _ => 0))) := (by rw [eg64]; exact (hp_up_ne _ _ (hp_neAO f104 f63)).trans f104)
      have f106 : g67 q36 = some (.inl (cA 1, 8, .inl (fun _ => 0))) := (by rw [eg67]; exact (hp_up_ne _ _ (hp_neN f105 nq66)).trans f105)
      have f107 : g70 q36 = some (.inl (cA 1, 8, .inl (fun _ => 0))) := (by rw [eg70]; exact (hp_up_ne _ _ (hp_neAO f106 f69)).trans f106)
      have f108 : g34 q30 = some (.inl (cA 1, 8, .inl (fun _ => 0))) := (by rw [eg34]; exact (hp_up_ne _ _ (hp_neAO f32 f33)).trans f32)
      have f109 : g37 q30 = some (.inl (cA 1, 8, .inl (fun _ => 0))) := (by rw [eg37]; exact (hp_up_ne _ _ (hp_neN f108 nq36)).trans f108)
      have f110 : g40 q30 = some (.inl (cA 1, 8, .inl (fun _ => 0))) := (by rw [eg40]; exact (hp_up_ne _ _ (hp_neAO f109 f39)).trans f109)
      have f111 : g43 q30 = some (.inl (cA 1, 8, .inl (fun _ => 0))) := (by rw [eg43]; exact (hp_up_ne _ _ (hp_neN f110 nq42)).trans f110)
      have f112 : g46 q30 = some (.inl (cA 1, 8, .inl (fun _ => 0))) := (by rw [eg46]; exact (hp_up_ne _ _ (hp_neAO f111 f45)).trans f111)
      have f113 : g49 q30 = some (.inl (cA 1, 8, .inl (fun _ => 0))) := (by rw [eg49]; exact (hp_up_ne _ _ (hp_neN f112 nq48)).trans f112)
      have f114 : g52 q30 = some (.inl (cA 1, 8, .inl (fun _ => 0))) := (by rw [eg52]; exact (hp_up_ne _ _ (hp_neAO f113 f51)).trans f113)
      have f115 : g55 q30 = some (.inl (cA 1, 8, .inl (fun _ => 0))) := (by rw [eg55]; exact (hp_up_ne _ _ (hp_neN f114 nq54)).trans f114)
      have f116 : g58 q30 = some (.inl (cA 1, 8, .inl (fun _ => 0))) := (by rw [eg58]; exact (hp_up_ne _ _ (hp_neAO f115 f57)).trans f115)
      have f117 : g61 q30 = some (.inl (cA 1, 8, .inl (fun _ => 0))) := (by rw [eg61]; exact (hp_up_ne _ _ (hp_neN f116 nq60)).trans f116)
      have f118 : g64 q30 = some (.inl (cA 1, 8, .inl (fun _ => 0))) := (by rw [eg64]; exact (hp_up_ne _ _ (hp_neAO f117 f63)).trans f117)
      have f119 : g67 q30 = some (.inl (cA 1, 8, .inl (fun _ => 0))) := (by rw [eg67]; exact (hp_up_ne _ _ (hp_neN f118 nq66)).trans f118)
      have f120 : g70 q30 = some (.inl (cA 1, 8, .inl (fun _ => 0))) := (by rw [eg70]; exact (hp_up_ne _ _ (hp_neAO f119 f69)).trans f119)
      have f121 : g28 q24 = some (.inl (cA 2, 32, .inr (.inl (fun _ => 0)))) := (by rw [eg28]; exact (hp_up_ne _ _ (hp_neAO f26 f27)).trans f26)
      have f122 : g31 q24 = some (.inl (cA 2, 32, .inr (.inl (fun _ => 0)))) := (by rw [eg31]; exact (hp_up_ne _ _ (hp_neN f121 nq30)).trans f121)
      have f123 : g34 q24 = some (.inl (cA 2, 32, .inr (.inl (fun _ => 0)))) := (by rw [eg34]; exact (hp_up_ne _ _ (hp_neAO f122 f33)).trans f122)
      have f124 : g37 q24 = some (.inl (cA 2, 32, .inr (.inl (fun _ => 0)))) := (by rw [eg37]; exact (hp_up_ne _ _ (hp_neN f123 nq36)).trans f123)
      have f125 : g40 q24 = some (.inl (cA 2, 32, .inr (.inl (fun _ => 0)))) := (by rw [eg40]; exact (hp_up_ne _ _ (hp_neAO f124 f39)).trans f124)
      have f126 : g43 q24 = some (.inl (cA 2, 32, .inr (.inl (fun _ => 0)))) := (by rw [eg43]; exact (hp_up_ne _ _ (hp_neN f125 nq42)).trans f125)
      have f127 : g46 q24 = some (.inl (cA 2, 32, .inr (.inl (fun _ => 0)))) := (by rw [eg46]; exact (hp_up_ne _ _ (hp_neAO f126 f45)).trans f126)
      have f128 : g49 q24 = some (.inl (cA 2, 32, .inr (.inl (fun _ => 0)))) := (by rw [eg49]; exact (hp_up_ne _ _ (hp_neN f127 nq48)).trans f127)
      have f129 : g52 q24 = some (.inl (cA 2, 32, .inr (.inl (fun _ => 0)))) := (by rw [eg52]; exact (hp_up_ne _ _ (hp_neAO f128 f51)).trans f128)
      have f130 : g55 q24 = some (.inl (cA 2, 32, .inr (.inl (fun _ => 0)))) := (by rw [eg55]; exact (hp_up_ne _ _ (hp_neN f129 nq54)).trans f129)
      have f131 : g58 q24 = some (.inl (cA 2, 32, .inr (.inl (fun _ => 0)))) := (by rw [eg58]; exact (hp_up_ne _ _ (hp_neAO f130 f57)).trans f130)
      have f132 : g61 q24 = some (.inl (cA 2, 32, .inr (.inl (fun _ => 0)))) := (by rw [eg61]; exact (hp_up_ne _ _ (hp_neN f131 nq60)).trans f131)
      have f133 : g64 q24 = some (.inl (cA 2, 32, .inr (.inl (fun _ => 0)))) := (by rw [eg64]; exact (hp_up_ne _ _ (hp_neAO f132 f63)).trans f132)
      have f134 : g67 q24 = some (.inl (cA 2, 32, .inr (.inl (fun _ => 0)))) := (by rw [eg67]; exact (hp_up_ne _ _ (hp_neN f133 nq66)).trans f133)
      have f135 : g70 q24 = some (.inl (cA 2, 32, .inr (.inl (fun _ => 0)))) := (by rw [eg70]; exact (hp_up_ne _ _ (hp_neAO f134 f69)).trans f134)
      have f136 : g22 q18 = some (.inl (cA 1, 8, .inl (fun _ => 0))) := (by rw [eg22]; exact (hp_up_ne _ _ (hp_neAO f20 f21)).trans f20)
      have f137 : g25 q18 = some (.inl (cA 1, 8, .inl (fun _ => 0))) := (by rw [eg25]; exact (hp_up_ne _ _ (hp_neN f136 nq24)).trans f136)
      have f138 : g28 q18 = some (.inl (cA 1, 8, .inl (fun _ => 0))) := (by rw [eg28]; exact (hp_up_ne _ _ (hp_neAO f137 f27)).trans f137)
      have f139 : g31 q18 = some (.inl (cA 1, 8, .inl (fun _ => 0))) := (by rw [eg31]; exact (hp_up_ne _ _ (hp_neN f138 nq30)).trans f138)
      have f140 : g34 q18 = some (.inl (cA 1, 8, .inl (fun _ => 0))) := (by rw [eg34]; exact (hp_up_ne _ _ (hp_neAO f139 f33)).trans f139)
      have f141 : g37 q18 = some (.inl (cA 1, 8, .inl (fun _ => 0))) := (by rw [eg37]; exact (hp_up_ne _ _ (hp_neN f140 nq36)).trans f140)
      have f142 : g40 q18 = some (.inl (cA 1, 8, .inl (fun _ => 0))) := (by rw [eg40]; exact (hp_up_ne _ _ (hp_neAO f141 f39)).trans f141)
      have f143 : g43 q18 = some (.inl (cA 1, 8, .inl (fun _ => 0))) := (by rw [eg43]; exact (hp_up_ne _ _ (hp_neN f142 nq42)).trans f142)
      have f144 : g46 q18 = some (.inl (cA 1, 8, .inl (fun _ => 0))) := (by rw [eg46]; exact (hp_up_ne _ _ (hp_neAO f143 f45)).trans f143)
      have f145 : g49 q18 = some (.inl (cA 1, 8, .inl (fun _ => 0))) := (by rw [eg49]; exact (hp_up_ne _ _ (hp_neN f144 nq48)).trans f144)
      have f146 : g52 q18 = some (.inl (cA 1, 8, .inl (fun _ => 0))) := (by rw [eg52]; exact (hp_up_ne _ _ (hp_neAO f145 f51)).trans f145)
      have f147 : g55 q18 = some (.inl (cA 1, 8, .inl (fun _ => 0))) := (by rw [eg55]; exact (hp_up_ne _ _ (hp_neN f146 nq54)).trans f146)
      have f148 : g58 q18 = some (.inl (cA 1, 8, .inl (fun _ => 0))) := (by rw [eg58]; exact (hp_up_ne _ _ (hp_neAO f147 f57)).trans f147)
      have f149 : g61 q18 = some (.inl (cA 1, 8, .inl (fun _ => 0))) := (by rw [eg61]; exact (hp_up_ne _ _ (hp_neN f148 nq60)).trans f148)
      have f150 : g64 q18 = some (.inl (cA 1, 8, .inl (fun _ => 0))) := (by rw [eg64]; exact (hp_up_ne _ _ (hp_neAO f149 f63)).trans f149)
      have f151 : g67 q18 = some (.inl (cA 1, 8, .inl (fun _ => 0))) := (by rw [eg67]; exact (hp_up_ne _ _ (hp_neN f150 nq66)).trans f150)
      have f152 : g70 q18 = some (.inl (cA 1, 8, .inl (fun _ => 0))) := (by rw [eg70]; exact (hp_up_ne _ _ (hp_neAO f151 f69)).trans f151)
      have f153 : g16 q11 = some (.inl (cA 2, 8, .inr (.inl (fun _ => 0)))) := (by rw [eg16]; exact (hp_up_ne _ _ (hp_neAO f13 f15)).trans f13)
      have f154 : g19 q11 = some (.inl (cA 2, 8, .inr (.inl (fun _ => 0)))) := (by rw [eg19]; exact (hp_up_ne _ _ (hp_neN f153 nq18)).trans f153)
      have f155 : g22 q11 = some (.inl (cA 2, 8, .inr (.inl (fun _ => 0)))) := (by rw [eg22]; exact (hp_up_ne _ _ (hp_neAO f154 f21)).trans f154)
      have f156 : g25 q11 = some (.inl (cA 2, 8, .inr (.inl (fun _ => 0)))) := (by rw [eg25]; exact (hp_up_ne _ _ (hp_neN f155 nq24)).trans f155)
      have f157 : g28 q11 = some (.inl (cA 2, 8, .inr (.inl (fun _ => 0)))) := (by rw [eg28]; exact (hp_up_ne _ _ (hp_neAO f156 f27)).trans f156)
      have f158 : g31 q11 = some (.inl (cA 2, 8, .inr (.inl (fun _ => 0)))) := (by rw [eg31]; exact (hp_up_ne _ _ (hp_neN f157 nq30)).trans f157)
      have f159 : g34 q11 = some (.inl (cA 2, 8, .inr (.inl (fun _ => 0)))) := (by rw [eg34]; exact (hp_up_ne _ _ (hp_neAO f158 f33)).trans f158)
      have f160 : g37 q11 = some (.inl (cA 2, 8, .inr (.inl (fun _ => 0)))) := (by rw [eg37]; exact (hp_up_ne _ _ (hp_neN f159 nq36)).trans f159)
      have f161 : g40 q11 = some (.inl (cA 2, 8, .inr (.inl (fun _ => 0)))) := (by rw [eg40]; exact (hp_up_ne _ _ (hp_neAO f160 f39)).trans f160)
      have f162 : g43 q11 = some (.inl (cA 2, 8, .inr (.inl (fun _ => 0)))) := (by rw [eg43]; exact (hp_up_ne _ _ (hp_neN f161 nq42)).trans f161)
      have f163 : g46 q11 = some (.inl (cA 2, 8, .inr (.inl (fun _ => 0)))) := (by rw [eg46]; exact (hp_up_ne _ _ (hp_neAO f162 f45)).trans f162)
      have f164 : g49 q11 = some (.inl (cA 2, 8, .inr (.inl (fun _ => 0)))) := (by rw [eg49]; exact (hp_up_ne _ _ (hp_neN f163 nq48)).trans f163)
      have f165 : g52 q11 = some (.inl (cA 2, 8, .inr (.inl (fun _ => 0)))) := (by rw [eg52]; exact (hp_up_ne _ _ (hp_neAO f164 f51)).trans f164)
      have f166 : g55 q11 = some (.inl (cA 2, 8, .inr (.inl (fun _ => 0)))) := (by rw [eg55]; exact (hp_up_ne _ _ (hp_neN f165 nq54)).trans f165)
      have f167 : g58 q11 = some (.inl (cA 2, 8, .inr (.inl (fun _ => 0)))) := (by rw [eg58]; exact (hp_up_ne _ _ (hp_neAO f166 f57)).trans f166)
      have f168 : g61 q11 = some (.inl (cA 2, 8, .inr (.inl (fun _ => 0)))) := (by rw [eg61]; exact (hp_up_ne _ _ (hp_neN f167 nq60)).trans f167)
      have f169 : g64 q11 = some (.inl (cA 2, 8, .inr (.inl (fun _ => 0)))) := (by rw [eg64]; exact (hp_up_ne _ _ (hp_neAO f168 f63)).trans f168)
      have f170 : g67 q11 = some (.inl (cA 2, 8, .inr (.inl (fun _ => 0)))) := (by rw [eg67]; exact (hp_up_ne _ _ (hp_neN f169 nq66)).trans f169)
      have f171 : g70 q11 = some (.inl (cA 2, 8, .inr (.inl (fun _ => 0)))) := (by rw [eg70]; exact (hp_up_ne _ _ (hp_neAO f170 f69)).trans f170)
      have f172 : g12 q3 = some (.inl (cA 6, 60, .inr (.inr (.inr (.inr (pl_row P 60)))))) := (by rw [eg12]; exact (hp_up_ne _ _ (hp_neN h1 nq11)).trans h1)
      have f173 : g16 q3 = some (.inl (cA 6, 60, .inr (.inr (.inr (.inr (pl_row P 60)))))) := (by rw [eg16]; exact (hp_up_ne _ _ (hp_neAO f172 f15)).trans f172)
      have f174 : g19 q3 = some (.inl (cA 6, 60, .inr (.inr (.inr (.inr (pl_row P 60)))))) := (by rw [eg19]; exact (hp_up_ne _ _ (hp_neN f173 nq18)).trans f173)
      have f175 : g22 q3 = some (.inl (cA 6, 60, .inr (.inr (.inr (.inr (pl_row P 60)))))) := (by rw [eg22]; exact (hp_up_ne _ _ (hp_neAO f174 f21)).trans f174)
      have f176 : g25 q3 = some (.inl (cA 6, 60, .inr (.inr (.inr (.inr (pl_row P 60)))))) := (by rw [eg25]; exact (hp_up_ne _ _ (hp_neN f175 nq24)).trans f175)
      have f177 : g28 q3 = some (.inl (cA 6, 60, .inr (.inr (.inr (.inr (pl_row P 60)))))) := (by rw [eg28]; exact (hp_up_ne _ _ (hp_neAO f176 f27)).trans f176)
      have f178 : g31 q3 = some (.inl (cA 6, 60, .inr (.inr (.inr (.inr (pl_row P 60)))))) := (by rw [eg31]; exact (hp_up_ne _ _ (hp_neN f177 nq30)).trans f177)
      have f179 : g34 q3 = some (.inl (cA 6, 60, .inr (.inr (.inr (.inr (pl_row P 60)))))) := (by rw [eg34]; exact (hp_up_ne _ _ (hp_neAO f178 f33)).trans f178)
      have f180 : g37 q3 = some (.inl (cA 6, 60, .inr (.inr (.inr (.inr (pl_row P 60)))))) := (by rw [eg37]; exact (hp_up_ne _ _ (hp_neN f179 nq36)).trans f179)
      have f181 : g40 q3 = some (.inl (cA 6, 60, .inr (.inr (.inr (.inr (pl_row P 60)))))) := (by rw [eg40]; exact (hp_up_ne _ _ (hp_neAO f180 f39)).trans f180)
      have f182 : g43 q3 = some (.inl (cA 6, 60, .inr (.inr (.inr (.inr (pl_row P 60)))))) := (by rw [eg43]; exact (hp_up_ne _ _ (hp_neN f181 nq42)).trans f181)
      have f183 : g46 q3 = some (.inl (cA 6, 60, .inr (.inr (.inr (.inr (pl_row P 60)))))) := (by rw [eg46]; exact (hp_up_ne _ _ (hp_neAO f182 f45)).trans f182)
      have f184 : g49 q3 = some (.inl (cA 6, 60, .inr (.inr (.inr (.inr (pl_row P 60)))))) := (by rw [eg49]; exact (hp_up_ne _ _ (hp_neN f183 nq48)).trans f183)
      have f185 : g52 q3 = some (.inl (cA 6, 60, .inr (.inr (.inr (.inr (pl_row P 60)))))) := (by rw [eg52]; exact (hp_up_ne _ _ (hp_neAO f184 f51)).trans f184)
      have f186 : g55 q3 = some (.inl (cA 6, 60, .inr (.inr (.inr (.inr (pl_row P 60)))))) := (by rw [eg55]; exact (hp_up_ne _ _ (hp_neN f185 nq54)).trans f185)
      have f187 : g58 q3 = some (.inl (cA 6, 60, .inr (.inr (.inr (.inr (pl_row P 60)))))) := (by rw [eg58]; exact (hp_up_ne _ _ (hp_neAO f186 f57)).trans f186)
      have f188 : g61 q3 = some (.inl (cA 6, 60, .inr (.inr (.inr (.inr (pl_row P 60)))))) := (by rw [eg61]; exact (hp_up_ne _ _ (hp_neN f187 nq60)).trans f187)
      have f189 : g64 q3 = some (.inl (cA 6, 60, .inr (.inr (.inr (.inr (pl_row P 60)))))) := (by rw [eg64]; exact (hp_up_ne _ _ (hp_neAO f188 f63)).trans f188)
      have f190 : g67 q3 = some (.inl (cA 6, 60, .inr (.inr (.inr (.inr (pl_row P 60)))))) := (by rw [eg67]; exact (hp_up_ne _ _ (hp_neN f189 nq66)).trans f189)
      have f191 : g70 q3 = some (.inl (cA 6, 60, .inr (.inr (.inr (.inr (pl_row P 60)))))) := (by rw [eg70]; exact (hp_up_ne _ _ (hp_neAO f190 f69)).trans f190)
      have y_gi : hp_extX h gi g70 := by
        intro b e hb hg
        have b_g12 : g12 b = some e := by rw [eg12]; exact (hp_up_ne _ _ (hp_neN hg nq11)).trans hg
        have b_g16 : g16 b = some e := by rw [eg16]; exact (hp_up_ne _ _ (hb)).trans b_g12
        have b_g19 : g19 b = some e := by rw [eg19]; exact (hp_up_ne _ _ (hp_neN b_g16 nq18)).trans b_g16
        have b_g22 : g22 b = some e := by rw [eg22]; exact (hp_up_ne _ _ (hb)).trans b_g19
        have b_g25 : g25 b = some e := by rw [eg25]; exact (hp_up_ne _ _ (hp_neN b_g22 nq24)).trans b_g22
        have b_g28 : g28 b = some e := by rw [eg28]; exact (hp_up_ne _ _ (hb)).trans b_g25
        have b_g31 : g31 b = some e := by rw [eg31]; exact (hp_up_ne _ _ (hp_neN b_g28 nq30)).trans b_g28
        have b_g34 : g34 b = some e := by rw [eg34]; exact (hp_up_ne _ _ (hb)).trans b_g31
        have b_g37 : g37 b = some e := by rw [eg37]; exact (hp_up_ne _ _ (hp_neN b_g34 nq36)).trans b_g34
        have b_g40 : g40 b = some e := by rw [eg40]; exact (hp_up_ne _ _ (hb)).trans b_g37
        have b_g43 : g43 b = some e := by rw [eg43]; exact (hp_up_ne _ _ (hp_neN b_g40 nq42)).trans b_g40
        have b_g46 : g46 b = some e := by rw [eg46]; exact (hp_up_ne _ _ (hb)).trans b_g43
        have b_g49 : g49 b = some e := by rw [eg49]; exact (hp_up_ne _ _ (hp_neN b_g46 nq48)).trans b_g46
        have b_g52 : g52 b = some e := by rw [eg52]; exact (hp_up_ne _ _ (hb)).trans b_g49
        have b_g55 : g55 b = some e := by rw [eg55]; exact (hp_up_ne _ _ (hp_neN b_g52 nq54)).trans b_g52
        have b_g58 : g58 b = some e := by rw [eg58]; exact (hp_up_ne _ _ (hb)).trans b_g55
        have b_g61 : g61 b = some e := by rw [eg61]; exact (hp_up_ne _ _ (hp_neN b_g58 nq60)).trans b_g58
        have b_g64 : g64 b = some e := by rw [eg64]; exact (hp_up_ne _ _ (hb)).trans b_g61
        have b_g67 : g67 b = some e := by rw [eg67]; exact (hp_up_ne _ _ (hp_neN b_g64 nq66)).trans b_g64
        have b_g70 : g70 b = some e := by rw [eg70]; exact (hp_up_ne _ _ (hb)).trans b_g67
        exact b_g70
      have z192 : ∀ a, a < 60 → pl_is 8 (K_Unit cA) g70 (P a) := w_gi.keepP (fun m hm => List.mem_append_left _ hm) h2 y_gi
      exact hp_vret cx hw (⟨(fun k => match k with | 0 => q66 | 1 => q60 | 2 => q54 | 3 => q48 | 4 => q42 | 5 => q36 | 6 => q30 | 7 => q24 | 8 => q18 | 9 => q11 | 10 => q3 | _ => 0), P, w_g70, f71, f72, f75, f80, f87, f96, f107, f120, f135, f152, f171, f191, z192⟩) dX2_init_128
    | succ j ih =>
      intro i gi H locs ls hij hinv hw hl
      obtain ⟨P, h1, h2, h4⟩ := hinv
      have hlt : i < 60 := by omega
      refine lv_iload_n cx.1 cx.2.1 dX2_init_20 rfl (lv_at hl 0 rfl) ?_
      refine lv_bipush (v := 60) cx.1 cx.2.1 dX2_init_21 (by decide) ?_
      refine lv_icmp_ge (tgt := 45) cx.1 cx.2.1 dX2_init_23 (by decide) (fun c23_193 => ?_) (fun c23_193 => ?_)
      · exact absurd c23_193 (show ¬ nI 60 ≤ nI i from nI_ge hlt (by decide))
      refine lv_aload_n cx.1 cx.2.1 dX2_init_26 rfl (lv_at hl 1 rfl) ?_
      have f194 : gi h = some (.inr (2, [.ref pol, .ref q3, .int 0, .null, .null, .null, .null, .null, .null, .null, .int 0, .null, .int 0, .null, .int 0, .null])) := h4.2.2.1 _ _ (hp_neOA f8 f9) f8
      refine hp_get (C := RX2) (T := TX2) (N := 16) (ci := 2) cx hw i_X2_init_X2 rfl f194 1 (by decide) m_X2_init_f17 (v := .ref q3) rfl dX2_init_27 ?_
      refine lv_iload_n cx.1 cx.2.1 dX2_init_30 rfl (lv_at hl 0 rfl) ?_
      refine hp_new (C := RX9) (T := TX9) (N := 18) (ci := 9) (fs := [.int 0, .int 0, .int 0, .int 0, .int 0, .long 0, .int 0, .int 0, .int 0, .int 0, .int 0, .int 0, .null, .int 0, .int 0, .null, .null, .null]) cx hw i_X2_init_X9 tyX9_ok rfl m_X2_init_k15 m_X2_init_n9 m_X2_init_z9 nwX9 (by (try dsimp only); omega) (by (try dsimp only); omega) dX2_init_31 (fun q195 g196 H nq195 eg196 hw => ?_)
      have f197 : g196 q195 = some (.inr (9, [.int 0, .int 0, .int 0, .int 0, .int 0, .long 0, .int 0, .int 0, .int 0, .int 0, .int 0, .int 0, .null, .int 0, .int 0, .null, .null, .null])) := (by rw [eg196]; exact hp_up_self _ _ _)
      refine lv_dup cx.1 cx.2.1 dX2_init_34 rfl ?_
      refine hp_callIv (As := []) (rest := [.ref q195, .int (nI i), .ref q3]) cx hw (k_Unit_init l D cA E _ g196 q195 f197) (cwI 0 cx.2.2.2.2.2.1 gX2_init_X9_init rfl rfl rfl (cx.2.2.2.2.2.1 _ m_X2_init_z9) (cx.2.2.2.2.2.1 _ m_X2_init_l21) (cx.2.2.2.2.2.1 _ m_X2_init_j21) rfl (by decide +kernel) ⟨Nat.le_of_ble_eq_true rfl, Nat.le_of_ble_eq_true rfl⟩) rfl hl.1 rfl (Nat.le_of_ble_eq_true rfl) dX2_init_35 ⟨by (try dsimp only); omega, by (try dsimp only); omega⟩ (fun u198 H locs hp200 hw => ?_)
      have hmu198 : pl_made 8 (K_Unit cA) q195 g196 u198 := hp200
      obtain ⟨p201, p2010, p201i, p201n, p201j, p201x⟩ := hp200
      have f202 : u198 q195 = some (.inr (9, [.int 0, .int 0, .int 0, .int 0, .int 0, .long 0, .int 0, .int 0, .int 0, .int 0, .int 0, .int 0, .ref (p201 1), .int 0, .int 0, .ref (p201 2), .ref (p201 4), .ref (p201 6)])) := by rw [← p2010]; exact p201i 0 (by decide)
      have f203 : g196 q3 = some (.inl (cA 6, 60, .inr (.inr (.inr (.inr (pl_row P i)))))) := (by rw [eg196]; exact (hp_up_ne _ _ (hp_neN h1 nq195)).trans h1)
      have f204 : u198 q3 = some (.inl (cA 6, 60, .inr (.inr (.inr (.inr (pl_row P i)))))) := p201x _ _ (hp_neAO f203 f197) f203
      refine hp_aast (r := (RX9, TX9, 18)) cx hw 6 f204 rfl f202 rfl (vp_in_nI hlt (by decide)) dX2_init_38 (fun g205 H locs eg205 hw => ?_)
      have f206 : g205 q3 = some (.inl (cA 6, 60, .inr (.inr (.inr (.inr (va_up (pl_row P i) (nI i).toNatClampNeg (some q195))))))) := (by rw [eg205]; exact hp_up_self _ _ _)
      refine lv_iinc (v := (nI (i + 1))) (lv' := [(2, .int (nI (i + 1))), (0, .ref h), (1, .ref pol)]) cx.1 cx.2.1 dX2_init_39 hl (k := 0) rfl (nI_1 i) (by decide) rfl (fun ls hl => ?_)
      refine lv_goto (tgt := 20) cx.1 cx.2.1 dX2_init_42 (by decide) ?_
      refine W.widen (k := 1 + 8 * (i + 1)) (n := 60 + 93 * (i + 1)) (by omega) (by omega) ?_
      exact ih (i + 1) g205 H locs ls (by omega) (pl_fil.step h1 h2 h4 nq195 eg196 hmu198 (by rw [nI_clamp (by omega)]) eg205 (by decide)) hw (lv_sub hl [0, 1, 2] rfl)
  refine W.widen (k := 1 + 8 * 0) (n := 60 + 93 * 0) (by omega) (by omega) ?_
  exact loop 60 0 g7 _ _ _ (by omega) (pl_fil.start f9) hw (lv_sub hl [0, 1, 2] rfl)

set_option maxHeartbeats 4000000 in
set_option maxRecDepth 100000 in
/-- Survey(plan), whole -/
theorem k2_Survey_init (l : Launch) (D : va_G) (cA : Nat → ClassId) (E : hp_N) (sz : Nat) (g : hp_M) (pln : Nat) (h : Nat) (hh : g h = some (.inr (8, [.null, .null, .int 0, .int 0, .int 0]))) : Met l yX8_init wsX8_init ({ frames := 1, cells := 1, slots := 60, locals := 12 }) (hp_Pc D vwCl (hp_Tl cA) E sz g [.ref h, .ref pln]) (hp_Qv D vwCl (hp_Tl cA) sz g (fun u => ∃ (a : Nat → Nat), nw h g u ((a 0) :: []) ∧ u h = some (.inr (8, [.ref pln, .ref (a 0), .int 0, .int 0, .int 0])) ∧ u (a 0) = some (.inl (cA 1, 60, .inl (fun _ => 0))))) 1 60 (hp_A g sz) := by
  refine hp_ofW (cc := cX8_init) (maxL := 2) (ret := none) (by decide) rfl (Nat.le_of_ble_eq_true rfl) ?_
  intro pp ee ss mm bb mt cd ls cx hsz hw hl
  have hl : lv_has ls 2 [(0, .ref h), (1, .ref pln)] := hl
  have w_g : nw h g g [] := nw.rf (by rw [hh]; exact fun r => nomatch r)
  refine lv_aload_n cx.1 cx.2.1 dX8_init_0 rfl (lv_at hl 0 rfl) ?_
  refine W.objInit cx.1 cx.2.1 cx.2.2.2.2.1 (cx.2.2.2.2.2.1 _ m_X8_init_oi) (cx.2.2.2.2.2.1 _ m_X8_init_oj) (cx.2.2.2.2.2.1 _ m_X8_init_ok) rfl (by rw [cx.2.2.2.1]; exact hl.1) rfl dX8_init_1 (Nat.le_of_ble_eq_true rfl) (Nat.le_of_ble_eq_true rfl) ?_
  refine W.eq (g2 := F0 mm 4 ls []) rfl ?_
  refine lv_aload_n cx.1 cx.2.1 dX8_init_4 rfl (lv_at hl 0 rfl) ?_
  refine lv_aload_n cx.1 cx.2.1 dX8_init_5 rfl (lv_at hl 1 rfl) ?_
  refine hp_putF (C := RX8) (T := TX8) (N := 5) (ci := 8) (fs' := [.ref pln, .null, .int 0, .int 0, .int 0]) cx hw i_X8_init_X8 tyX8_ok nmX8 rfl hh 0 (by decide) m_X8_init_f9 rfl rfl rfl rfl rfl (Nat.le_of_ble_eq_true rfl) rfl dX8_init_6 (fun g1 H locs eg1 hw => ?_)
  have f2 : g1 h = some (.inr (8, [.ref pln, .null, .int 0, .int 0, .int 0])) := (by rw [eg1]; exact hp_up_self _ _ _)
  have w_g1 : nw h g g1 [] := w_g.put (Or.inl rfl) eg1
  refine lv_aload_n cx.1 cx.2.1 dX8_init_9 rfl (lv_at hl 0 rfl) ?_
  refine lv_bipush (v := 60) cx.1 cx.2.1 dX8_init_10 (by decide) ?_
  refine hp_newa (atype := .int) (N' := 60) (a0 := (60, .inl (fun _ => 0))) cx hw m_X8_init_a1 1 (ty := .int) rfl rfl (fun _ => rfl) (by decide) (by decide) (by decide) (by exact Nat.le_of_ble_eq_true rfl) (by exact Nat.le_of_ble_eq_true rfl) dX8_init_12 (fun q3 g4 H nq3 eg4 hw => ?_)
  have f5 : g4 q3 = some (.inl (cA 1, 60, .inl (fun _ => 0))) := (by rw [eg4]; exact hp_up_self _ _ _)
  have w_g4 : nw h g g4 (q3 :: []) := w_g1.new nq3 eg4
  have f6 : g4 h = some (.inr (8, [.ref pln, .null, .int 0, .int 0, .int 0])) := (by rw [eg4]; exact (hp_up_ne _ _ (hp_neN f2 nq3)).trans f2)
  refine hp_putF (C := RX8) (T := TX8) (N := 5) (ci := 8) (fs' := [.ref pln, .ref q3, .int 0, .int 0, .int 0]) cx hw i_X8_init_X8 tyX8_ok nmX8 rfl f6 1 (by decide) m_X8_init_f15 rfl rfl rfl rfl rfl (Nat.le_of_ble_eq_true rfl) rfl dX8_init_14 (fun g7 H locs eg7 hw => ?_)
  have f8 : g7 h = some (.inr (8, [.ref pln, .ref q3, .int 0, .int 0, .int 0])) := (by rw [eg7]; exact hp_up_self _ _ _)
  have w_g7 : nw h g g7 (q3 :: []) := w_g4.put (Or.inl rfl) eg7
  have f9 : g7 q3 = some (.inl (cA 1, 60, .inl (fun _ => 0))) := (by rw [eg7]; exact (hp_up_ne _ _ (hp_neAO f5 f6)).trans f5)
  exact hp_vret cx hw (⟨(fun k => match k with | 0 => q3 | _ => 0), w_g7, f8, f9⟩) dX8_init_17
