set_option maxHeartbeats 4000000 in
set_option maxRecDepth 100000 in
/-- Machine(plan, policy), whole -/
theorem k2_Machine_init (l : Launch) (D : va_G) (cA : Nat → ClassId) (E : hp_N) (sz : Nat) (g : hp_M) (hAO : ∀ A U H, E A U H → va_AO "WardenHouse$Strand" U) (pln pol : Nat) (h : Nat) (hh : g h = some (.inr (1, [.null, .null, .null, .null, .null, .null, .null, .null, .int 0, .int 0, .int 0, .int 0, .int 0, .int 0, .int 0, .int 0, .int 0, .int 0, .null, .int 0]))) : Met l yX1_init wsX1_init ({ frames := 4, cells := 90, slots := 3882, locals := 110 }) (hp_Pc D vwCl (hp_Tl cA) E sz g [.ref h, .ref pln, .ref pol]) (hp_Qv D vwCl (hp_Tl cA) sz g (fun u => ∃ (a : Nat → Nat) (P0 : Nat → Nat → Nat), nw h g u ((a 0) :: ((a 1) :: ((a 2) :: ((a 3) :: ((a 4) :: ((a 5) :: ((a 6) :: ((a 7) :: (plL 9 P0 8 ++ ((a 8) :: (((a 9) :: ((a 10) :: ((a 11) :: ((a 12) :: ((a 13) :: ((a 14) :: ((a 15) :: ((a 16) :: [])))))))) ++ ((a 17) :: [])))))))))))) ∧ u h = some (.inr (1, [.ref pln, .ref pol, .ref (a 17), .ref (a 8), .ref (a 7), .ref (a 5), .ref (a 3), .ref (a 1), .int 0, .int 0, .int 0, .int 0, .int 0, .int 0, .int 0, .int 0, .int 0, .int 0, .ref (P0 0 0), .int 0])) ∧ u (a 0) = some (.inl (cA 2, 80, .inr (.inl (fun _ => 0)))) ∧ u (a 1) = some (.inr (6, [.ref (a 0), .int 0])) ∧ u (a 2) = some (.inl (cA 2, 64, .inr (.inl (fun _ => 0)))) ∧ u (a 3) = some (.inr (6, [.ref (a 2), .int 0])) ∧ u (a 4) = some (.inl (cA 2, 32, .inr (.inl (fun _ => 0)))) ∧ u (a 5) = some (.inr (6, [.ref (a 4), .int 0])) ∧ u (a 6) = some (.inl (cA 2, 48, .inr (.inl (fun _ => 0)))) ∧ u (a 7) = some (.inr (6, [.ref (a 6), .int 0])) ∧ u (a 8) = some (.inl (cA 5, 8, .inr (.inr (.inr (.inr (pl_row P0 8)))))) ∧ u (a 9) = some (.inl (cA 1, 14, .inl (fun _ => 0))) ∧ u (a 10) = some (.inl (cA 1, 256, .inl (fun _ => 0))) ∧ u (a 11) = some (.inl (cA 2, 16, .inr (.inl (fun _ => 0)))) ∧ u (a 12) = some (.inr (6, [.ref (a 11), .int 0])) ∧ u (a 13) = some (.inl (cA 2, 32, .inr (.inl (fun _ => 0)))) ∧ u (a 14) = some (.inr (6, [.ref (a 13), .int 0])) ∧ u (a 15) = some (.inl (cA 2, 16, .inr (.inl (fun _ => 0)))) ∧ u (a 16) = some (.inr (6, [.ref (a 15), .int 0])) ∧ u (a 17) = some (.inr (0, [.ref (a 16), .ref (a 14), .ref (a 12), .ref (a 10), .ref (a 9), .int 0])) ∧ (∀ a, a < 8 → pl_is 9 (K_Strand cA) u (P0 a)))) 90 3882 (hp_A g sz) := by
  refine hp_ofW (cc := cX1_init) (maxL := 4) (ret := none) (by decide) rfl (Nat.le_of_ble_eq_true rfl) ?_
  intro pp ee ss mm bb mt cd ls cx hsz hw hl
  have hl : lv_has ls 4 [(0, .ref h), (1, .ref pln), (2, .ref pol)] := hl
  have w_g : nw h g g [] := nw.rf (by rw [hh]; exact fun r => nomatch r)
  refine lv_aload_n cx.1 cx.2.1 dX1_init_0 rfl (lv_at hl 0 rfl) ?_
  refine W.objInit cx.1 cx.2.1 cx.2.2.2.2.1 (cx.2.2.2.2.2.1 _ m_X1_init_oi) (cx.2.2.2.2.2.1 _ m_X1_init_oj) (cx.2.2.2.2.2.1 _ m_X1_init_ok) rfl (by rw [cx.2.2.2.1]; exact hl.1) rfl dX1_init_1 (Nat.le_of_ble_eq_true rfl) (Nat.le_of_ble_eq_true rfl) ?_
  refine W.eq (g2 := F0 mm 4 ls []) rfl ?_
  refine lv_aload_n cx.1 cx.2.1 dX1_init_4 rfl (lv_at hl 0 rfl) ?_
  refine lv_aload_n cx.1 cx.2.1 dX1_init_5 rfl (lv_at hl 1 rfl) ?_
  refine hp_putF (C := RX1) (T := TX1) (N := 20) (ci := 1) (fs' := [.ref pln, .null, .null, .null, .null, .null, .null, .null, .int 0, .int 0, .int 0, .int 0, .int 0, .int 0, .int 0, .int 0, .int 0, .int 0, .null, .int 0]) cx hw i_X1_init_X1 tyX1_ok nmX1 rfl hh 0 (by decide) m_X1_init_f11 rfl rfl rfl rfl rfl (Nat.le_of_ble_eq_true rfl) rfl dX1_init_6 (fun g1 H locs eg1 hw => ?_)
  have f2 : g1 h = some (.inr (1, [.ref pln, .null, .null, .null, .null, .null, .null, .null, .int 0, .int 0, .int 0, .int 0, .int 0, .int 0, .int 0, .int 0, .int 0, .int 0, .null, .int 0])) := (by rw [eg1]; exact hp_up_self _ _ _)
  have w_g1 : nw h g g1 [] := w_g.put (Or.inl rfl) eg1
  refine lv_aload_n cx.1 cx.2.1 dX1_init_9 rfl (lv_at hl 0 rfl) ?_
  refine lv_aload_n cx.1 cx.2.1 dX1_init_10 rfl (lv_at hl 2 rfl) ?_
  refine hp_putF (C := RX1) (T := TX1) (N := 20) (ci := 1) (fs' := [.ref pln, .ref pol, .null, .null, .null, .null, .null, .null, .int 0, .int 0, .int 0, .int 0, .int 0, .int 0, .int 0, .int 0, .int 0, .int 0, .null, .int 0]) cx hw i_X1_init_X1 tyX1_ok nmX1 rfl f2 1 (by decide) m_X1_init_f15 rfl rfl rfl rfl rfl (Nat.le_of_ble_eq_true rfl) rfl dX1_init_11 (fun g3 H locs eg3 hw => ?_)
  have f4 : g3 h = some (.inr (1, [.ref pln, .ref pol, .null, .null, .null, .null, .null, .null, .int 0, .int 0, .int 0, .int 0, .int 0, .int 0, .int 0, .int 0, .int 0, .int 0, .null, .int 0])) := (by rw [eg3]; exact hp_up_self _ _ _)
  have w_g3 : nw h g g3 [] := w_g1.put (Or.inl rfl) eg3
  refine lv_aload_n cx.1 cx.2.1 dX1_init_14 rfl (lv_at hl 0 rfl) ?_
  refine hp_new (C := RX0) (T := TX0) (N := 6) (ci := 0) (fs := [.null, .null, .null, .null, .null, .int 0]) cx hw i_X1_init_X0 tyX0_ok rfl m_X1_init_k19 m_X1_init_n0 m_X1_init_z0 nwX0 (by exact Nat.le_of_ble_eq_true rfl) (by exact Nat.le_of_ble_eq_true rfl) dX1_init_15 (fun q5 g6 H nq5 eg6 hw => ?_)
  have f7 : g6 q5 = some (.inr (0, [.null, .null, .null, .null, .null, .int 0])) := (by rw [eg6]; exact hp_up_self _ _ _)
  have w_g6 : nw h g g6 (q5 :: []) := w_g3.new nq5 eg6
  refine lv_dup cx.1 cx.2.1 dX1_init_18 rfl ?_
  refine hp_callIv (As := []) (rest := [.ref q5, .ref h]) cx hw (k2_Contexts_init l D cA E _ g6  q5 f7) (cwI 0 cx.2.2.2.2.2.1 gX1_init_X0_init rfl rfl rfl (cx.2.2.2.2.2.1 _ m_X1_init_z0) (cx.2.2.2.2.2.1 _ m_X1_init_l21) (cx.2.2.2.2.2.1 _ m_X1_init_j21) rfl (by decide +kernel) ⟨Nat.le_of_ble_eq_true rfl, Nat.le_of_ble_eq_true rfl⟩) rfl hl.1 rfl (Nat.le_of_ble_eq_true rfl) dX1_init_19 ⟨Nat.le_of_ble_eq_true rfl, Nat.le_of_ble_eq_true rfl⟩ (fun u8 H locs hp10 hw => ?_)
  obtain ⟨a11, v11, hc11, c11_0, c11_1, c11_2, c11_3, c11_4, c11_5, c11_6, c11_7⟩ := hp10
  have w_u8 : nw h g u8 (((a11 0) :: ((a11 1) :: ((a11 2) :: ((a11 3) :: ((a11 4) :: ((a11 5) :: ((a11 6) :: ((a11 7) :: [])))))))) ++ (q5 :: [])) := w_g6.call (List.mem_cons_self) v11
  have f12 : g6 h = some (.inr (1, [.ref pln, .ref pol, .null, .null, .null, .null, .null, .null, .int 0, .int 0, .int 0, .int 0, .int 0, .int 0, .int 0, .int 0, .int 0, .int 0, .null, .int 0])) := (by rw [eg6]; exact (hp_up_ne _ _ (hp_neN f4 nq5)).trans f4)
  have f13 : u8 h = some (.inr (1, [.ref pln, .ref pol, .null, .null, .null, .null, .null, .null, .int 0, .int 0, .int 0, .int 0, .int 0, .int 0, .int 0, .int 0, .int 0, .int 0, .null, .int 0])) := v11.2.2.1 _ _ (hp_neK f12 f7 (by decide)) f12
  refine hp_putF (C := RX1) (T := TX1) (N := 20) (ci := 1) (fs' := [.ref pln, .ref pol, .ref q5, .null, .null, .null, .null, .null, .int 0, .int 0, .int 0, .int 0, .int 0, .int 0, .int 0, .int 0, .int 0, .int 0, .null, .int 0]) cx hw i_X1_init_X1 tyX1_ok nmX1 rfl f13 2 (by decide) m_X1_init_f22 rfl rfl rfl rfl rfl (Nat.le_of_ble_eq_true rfl) rfl dX1_init_22 (fun g14 H locs eg14 hw => ?_)
  have f15 : g14 h = some (.inr (1, [.ref pln, .ref pol, .ref q5, .null, .null, .null, .null, .null, .int 0, .int 0, .int 0, .int 0, .int 0, .int 0, .int 0, .int 0, .int 0, .int 0, .null, .int 0])) := (by rw [eg14]; exact hp_up_self _ _ _)
  have w_g14 : nw h g g14 (((a11 0) :: ((a11 1) :: ((a11 2) :: ((a11 3) :: ((a11 4) :: ((a11 5) :: ((a11 6) :: ((a11 7) :: [])))))))) ++ (q5 :: [])) := w_u8.put (Or.inl rfl) eg14
  refine lv_aload_n cx.1 cx.2.1 dX1_init_25 rfl (lv_at hl 0 rfl) ?_
  refine lv_bipush (v := 8) cx.1 cx.2.1 dX1_init_26 (by decide) ?_
  refine hp_newq (N' := 8) cx hw m_X1_init_k26 (hAO _ _ _ hw.2.2.2.2.2) 5 rfl (by decide) (by decide) (by decide) (by exact Nat.le_of_ble_eq_true rfl) (by exact Nat.le_of_ble_eq_true rfl) dX1_init_28 (fun q16 g17 H nq16 eg17 hw => ?_)
  have f18 : g17 q16 = some (.inl (cA 5, 8, .inr (.inr (.inr (.inr (fun _ => none)))))) := (by rw [eg17]; exact hp_up_self _ _ _)
  have w_g17 : nw h g g17 (q16 :: (((a11 0) :: ((a11 1) :: ((a11 2) :: ((a11 3) :: ((a11 4) :: ((a11 5) :: ((a11 6) :: ((a11 7) :: [])))))))) ++ (q5 :: []))) := w_g14.new nq16 eg17
  have f19 : g17 h = some (.inr (1, [.ref pln, .ref pol, .ref q5, .null, .null, .null, .null, .null, .int 0, .int 0, .int 0, .int 0, .int 0, .int 0, .int 0, .int 0, .int 0, .int 0, .null, .int 0])) := (by rw [eg17]; exact (hp_up_ne _ _ (hp_neN f15 nq16)).trans f15)
  refine hp_putF (C := RX1) (T := TX1) (N := 20) (ci := 1) (fs' := [.ref pln, .ref pol, .ref q5, .ref q16, .null, .null, .null, .null, .int 0, .int 0, .int 0, .int 0, .int 0, .int 0, .int 0, .int 0, .int 0, .int 0, .null, .int 0]) cx hw i_X1_init_X1 tyX1_ok nmX1 rfl f19 3 (by decide) m_X1_init_f28 rfl rfl rfl rfl rfl (Nat.le_of_ble_eq_true rfl) rfl dX1_init_31 (fun g20 H locs eg20 hw => ?_)
  have f21 : g20 h = some (.inr (1, [.ref pln, .ref pol, .ref q5, .ref q16, .null, .null, .null, .null, .int 0, .int 0, .int 0, .int 0, .int 0, .int 0, .int 0, .int 0, .int 0, .int 0, .null, .int 0])) := (by rw [eg20]; exact hp_up_self _ _ _)
  have w_g20 : nw h g g20 (q16 :: (((a11 0) :: ((a11 1) :: ((a11 2) :: ((a11 3) :: ((a11 4) :: ((a11 5) :: ((a11 6) :: ((a11 7) :: [])))))))) ++ (q5 :: []))) := w_g17.put (Or.inl rfl) eg20
  refine lv_iconst (v := 0) cx.1 cx.2.1 dX1_init_34 (by decide) ?_
  refine lv_istore_n (lv' := [(3, .int 0), (0, .ref h), (1, .ref pln), (2, .ref pol)]) cx.1 cx.2.1 dX1_init_35 rfl hl (by decide) rfl (fun ls hl => ?_)
  have f22 : g20 q16 = some (.inl (cA 5, 8, .inr (.inr (.inr (.inr (fun _ => none)))))) := (by rw [eg20]; exact (hp_up_ne _ _ (hp_neAO f18 f19)).trans f18)
  have loop : ∀ (j i : Nat) (gi : hp_M) (H : Heap) (locs : List Loc) (ls : Array Slot), i + j = 8 → pl_fil 9 5 8 (K_Strand cA) cA g20 q16 i gi → hp_w D vwCl (hp_Tl cA) E (hp_A g sz) ss H locs gi → lv_has ls 4 [(3, .int (nI i)), (0, .ref h), (1, .ref pln), (2, .ref pol)] → W pp l ee ({ frames := 4, cells := 90, slots := 3882, locals := 110 }) ss mm [.ref h, .ref pln, .ref pol].toArray bb mt cd H locs ((1 + 8 + 1) + 9 * i) ((6 + 340 + 8) + 412 * i) (MQ bb (hp_Qv D vwCl (hp_Tl cA) sz g (fun u => ∃ (a : Nat → Nat) (P0 : Nat → Nat → Nat), nw h g u ((a 0) :: ((a 1) :: ((a 2) :: ((a 3) :: ((a 4) :: ((a 5) :: ((a 6) :: ((a 7) :: (plL 9 P0 8 ++ ((a 8) :: (((a 9) :: ((a 10) :: ((a 11) :: ((a 12) :: ((a 13) :: ((a 14) :: ((a 15) :: ((a 16) :: [])))))))) ++ ((a 17) :: [])))))))))))) ∧ u h = some (.inr (1, [.ref pln, .ref pol, .ref (a 17), .ref (a 8), .ref (a 7), .ref (a 5), .ref (a 3), .ref (a 1), .int 0, .int 0, .int 0, .int 0, .int 0, .int 0, .int 0, .int 0, .int 0, .int 0, .ref (P0 0 0), .int 0])) ∧ u (a 0) = some (.inl (cA 2, 80, .inr (.inl (fun _ => 0)))) ∧ u (a 1) = some (.inr (6, [.ref (a 0), .int 0])) ∧ u (a 2) = some (.inl (cA 2, 64, .inr (.inl (fun _ => 0)))) ∧ u (a 3) = some (.inr (6, [.ref (a 2), .int 0])) ∧ u (a 4) = some (.inl (cA 2, 32, .inr (.inl (fun _ => 0)))) ∧ u (a 5) = some (.inr (6, [.ref (a 4), .int 0])) ∧ u (a 6) = some (.inl (cA 2, 48, .inr (.inl (fun _ => 0)))) ∧ u (a 7) = some (.inr (6, [.ref (a 6), .int 0])) ∧ u (a 8) = some (.inl (cA 5, 8, .inr (.inr (.inr (.inr (pl_row P0 8)))))) ∧ u (a 9) = some (.inl (cA 1, 14, .inl (fun _ => 0))) ∧ u (a 10) = some (.inl (cA 1, 256, .inl (fun _ => 0))) ∧ u (a 11) = some (.inl (cA 2, 16, .inr (.inl (fun _ => 0)))) ∧ u (a 12) = some (.inr (6, [.ref (a 11), .int 0])) ∧ u (a 13) = some (.inl (cA 2, 32, .inr (.inl (fun _ => 0)))) ∧ u (a 14) = some (.inr (6, [.ref (a 13), .int 0])) ∧ u (a 15) = some (.inl (cA 2, 16, .inr (.inl (fun _ => 0)))) ∧ u (a 16) = some (.inr (6, [.ref (a 15), .int 0])) ∧ u (a 17) = some (.inr (0, [.ref (a 16), .ref (a 14), .ref (a 12), .ref (a 10), .ref (a 9), .int 0])) ∧ (∀ a, a < 8 → pl_is 9 (K_Strand cA) u (P0 a)))) [.ref h, .ref pln, .ref pol].toArray ss 90 3882 (hp_A g sz)) (F0 mm 36 ls []) := by
    intro j
    induction j with
    | zero =>
      intro i gi H locs ls hij hinv hw hl
      obtain ⟨P, h1, h2, h4⟩ := hinv
      have hi : i = 8 := by omega
      rw [hi] at h1 h2 h4
      have w_gi : nw h g gi (plL 9 P 8 ++ (q16 :: (((a11 0) :: ((a11 1) :: ((a11 2) :: ((a11 3) :: ((a11 4) :: ((a11 5) :: ((a11 6) :: ((a11 7) :: [])))))))) ++ (q5 :: [])))) := w_g20.call (List.mem_cons_self) h4
      refine lv_iload_n cx.1 cx.2.1 dX1_init_36 rfl (lv_at hl 0 rfl) ?_
      refine lv_bipush (v := 8) cx.1 cx.2.1 dX1_init_37 (by decide) ?_
      refine lv_icmp_ge (tgt := 61) cx.1 cx.2.1 dX1_init_39 (by decide) (fun c39_23 => ?_) (fun c39_23 => ?_)
      rotate_left
      · exact absurd (by rw [hi]; decide) c39_23
      refine W.widen (k := 82) (n := 3650) (by omega) (by omega) ?_
      refine lv_aload_n cx.1 cx.2.1 dX1_init_61 rfl (lv_at hl 1 rfl) ?_
      refine lv_aload_n cx.1 cx.2.1 dX1_init_62 rfl (lv_at hl 1 rfl) ?_
      have f24 : gi h = some (.inr (1, [.ref pln, .ref pol, .ref q5, .ref q16, .null, .null, .null, .null, .int 0, .int 0, .int 0, .int 0, .int 0, .int 0, .int 0, .int 0, .int 0, .int 0, .null, .int 0])) := h4.2.2.1 _ _ (hp_neOA f21 f22) f21
      refine hp_get (C := RX1) (T := TX1) (N := 20) (ci := 1) cx hw i_X1_init_X1 rfl f24 3 (by decide) m_X1_init_f28 (v := .ref q16) rfl dX1_init_63 ?_
      refine lv_iconst (v := 0) cx.1 cx.2.1 dX1_init_66 (by decide) ?_
      refine hp_aald cx hw 5 h1 rfl (by unfold vp_in; decide) dX1_init_67 ?_
      have ht0 : va_rf ((pl_row P 8) (0 : Int32).toNatClampNeg) = .ref (P 0 0) := by rw [show ((0 : Int32).toNatClampNeg) = 0 from rfl]; rfl
      rw [ht0]
      refine hp_put (C := RX1) (T := TX1) (N := 20) (ci := 1) (fs' := [.ref pln, .ref pol, .ref q5, .ref q16, .null, .null, .null, .null, .int 0, .int 0, .int 0, .int 0, .int 0, .int 0, .int 0, .int 0, .int 0, .int 0, .ref (P 0 0), .int 0]) cx hw i_X1_init_X1 tyX1_ok nmX1 rfl f24 18 (by decide) m_X1_init_f33 rfl  rfl rfl (Nat.le_of_ble_eq_true rfl) rfl dX1_init_68 (fun g25 H locs eg25 hw => ?_)
      have f26 : g25 h = some (.inr (1, [.ref pln, .ref pol, .ref q5, .ref q16, .null, .null, .null, .null, .int 0, .int 0, .int 0, .int 0, .int 0, .int 0, .int 0, .int 0, .int 0, .int 0, .ref (P 0 0), .int 0])) := (by rw [eg25]; exact hp_up_self _ _ _)
      have w_g25 : nw h g g25 (plL 9 P 8 ++ (q16 :: (((a11 0) :: ((a11 1) :: ((a11 2) :: ((a11 3) :: ((a11 4) :: ((a11 5) :: ((a11 6) :: ((a11 7) :: [])))))))) ++ (q5 :: [])))) := w_gi.put (Or.inl rfl) eg25
      refine lv_aload_n cx.1 cx.2.1 dX1_init_71 rfl (lv_at hl 1 rfl) ?_
      refine hp_new (C := RX6) (T := TX6) (N := 2) (ci := 6) (fs := [.null, .int 0]) cx hw i_X1_init_X6 tyX6_ok rfl m_X1_init_k37 m_X1_init_n6 m_X1_init_z6 nwX6 (by exact Nat.le_of_ble_eq_true rfl) (by exact Nat.le_of_ble_eq_true rfl) dX1_init_72 (fun q27 g28 H nq27 eg28 hw => ?_)
      have f29 : g28 q27 = some (.inr (6, [.null, .int 0])) := (by rw [eg28]; exact hp_up_self _ _ _)
      have w_g28 : nw h g g28 (q27 :: (plL 9 P 8 ++ (q16 :: (((a11 0) :: ((a11 1) :: ((a11 2) :: ((a11 3) :: ((a11 4) :: ((a11 5) :: ((a11 6) :: ((a11 7) :: [])))))))) ++ (q5 :: []))))) := w_g25.new nq27 eg28
      refine lv_dup cx.1 cx.2.1 dX1_init_75 rfl ?_
      refine lv_bipush (v := 48) cx.1 cx.2.1 dX1_init_76 (by decide) ?_
      refine hp_callIv (As := [.int 48]) (rest := [.ref q27, .ref h]) cx hw (k_Row_init l D cA E _ g28 q27 0 48 48 f29 (by decide) (by decide) (by decide)) (cwI 1 cx.2.2.2.2.2.1 gX1_init_X6_init rfl rfl rfl (cx.2.2.2.2.2.1 _ m_X1_init_z6) (cx.2.2.2.2.2.1 _ m_X1_init_l39) (cx.2.2.2.2.2.1 _ m_X1_init_j39) rfl (by decide +kernel) ⟨Nat.le_of_ble_eq_true rfl, Nat.le_of_ble_eq_true rfl⟩) rfl hl.1 rfl (Nat.le_of_ble_eq_true rfl) dX1_init_78 ⟨Nat.le_of_ble_eq_true rfl, Nat.le_of_ble_eq_true rfl⟩ (fun u30 H locs hp32 hw => ?_)
      obtain ⟨k33, g34, nk33, eg34, eu30⟩ := hp32
      have f35 : g34 k33 = some (.inl (cA 2, 48, .inr (.inl (fun _ => 0)))) := (by rw [eg34]; exact hp_up_self _ _ _)
      have w_g34 : nw h g g34 (k33 :: (q27 :: (plL 9 P 8 ++ (q16 :: (((a11 0) :: ((a11 1) :: ((a11 2) :: ((a11 3) :: ((a11 4) :: ((a11 5) :: ((a11 6) :: ((a11 7) :: [])))))))) ++ (q5 :: [])))))) := w_g28.new nk33 eg34
      have f36 : u30 q27 = some (.inr (6, [.ref k33, .int 0])) := (by rw [eu30]; exact hp_up_self _ _ _)
      have w_u30 : nw h g u30 (k33 :: (q27 :: (plL 9 P 8 ++ (q16 :: (((a11 0) :: ((a11 1) :: ((a11 2) :: ((a11 3) :: ((a11 4) :: ((a11 5) :: ((a11 6) :: ((a11 7) :: [])))))))) ++ (q5 :: [])))))) := w_g34.put (Or.inr (List.mem_cons_of_mem _ (List.mem_cons_self))) eu30
      have f37 : g28 h = some (.inr (1, [.ref pln, .ref pol, .ref q5, .ref q16, .null, .null, .null, .null, .int 0, .int 0, .int 0, .int 0, .int 0, .int 0, .int 0, .int 0, .int 0, .int 0, .ref (P 0 0), .int 0])) := (by rw [eg28]; exact (hp_up_ne _ _ (hp_neN f26 nq27)).trans f26)
      have f38 : g34 h = some (.inr (1, [.ref pln, .ref pol, .ref q5, .ref q16, .null, .null, .null, .null, .int 0, .int 0, .int 0, .int 0, .int 0, .int 0, .int 0, .int 0, .int 0, .int 0, .ref (P 0 0), .int 0])) := (by rw [eg34]; exact (hp_up_ne _ _ (hp_neN f37 nk33)).trans f37)
      have f39 : g34 q27 = some (.inr (6, [.null, .int 0])) := (by rw [eg34]; exact (hp_up_ne _ _ (hp_neN f29 nk33)).trans f29)
      have f40 : u30 h = some (.inr (1, [.ref pln, .ref pol, .ref q5, .ref q16, .null, .null, .null, .null, .int 0, .int 0, .int 0, .int 0, .int 0, .int 0, .int 0, .int 0, .int 0, .int 0, .ref (P 0 0), .int 0])) := (by rw [eu30]; exact (hp_up_ne _ _ (hp_neK f38 f39 (by decide))).trans f38)
      refine hp_putF (C := RX1) (T := TX1) (N := 20) (ci := 1) (fs' := [.ref pln, .ref pol, .ref q5, .ref q16, .ref q27, .null, .null, .null, .int 0, .int 0, .int 0, .int 0, .int 0, .int 0, .int 0, .int 0, .int 0, .int 0, .ref (P 0 0), .int 0]) cx hw i_X1_init_X1 tyX1_ok nmX1 rfl f40 4 (by decide) m_X1_init_f42 rfl rfl rfl rfl rfl (Nat.le_of_ble_eq_true rfl) rfl dX1_init_81 (fun g41 H locs eg41 hw => ?_)
      have f42 : g41 h = some (.inr (1, [.ref pln, .ref pol, .ref q5, .ref q16, .ref q27, .null, .null, .null, .int 0, .int 0, .int 0, .int 0, .int 0, .int 0, .int 0, .int 0, .int 0, .int 0, .ref (P 0 0), .int 0])) := (by rw [eg41]; exact hp_up_self _ _ _)
      have w_g41 : nw h g g41 (k33 :: (q27 :: (plL 9 P 8 ++ (q16 :: (((a11 0) :: ((a11 1) :: ((a11 2) :: ((a11 3) :: ((a11 4) :: ((a11 5) :: ((a11 6) :: ((a11 7) :: [])))))))) ++ (q5 :: [])))))) := w_u30.put (Or.inl rfl) eg41
      refine lv_aload_n cx.1 cx.2.1 dX1_init_84 rfl (lv_at hl 1 rfl) ?_
      refine hp_new (C := RX6) (T := TX6) (N := 2) (ci := 6) (fs := [.null, .int 0]) cx hw i_X1_init_X6 tyX6_ok rfl m_X1_init_k37 m_X1_init_n6 m_X1_init_z6 nwX6 (by exact Nat.le_of_ble_eq_true rfl) (by exact Nat.le_of_ble_eq_true rfl) dX1_init_85 (fun q43 g44 H nq43 eg44 hw => ?_)
      have f45 : g44 q43 = some (.inr (6, [.null, .int 0])) := (by rw [eg44]; exact hp_up_self _ _ _)
      have w_g44 : nw h g g44 (q43 :: (k33 :: (q27 :: (plL 9 P 8 ++ (q16 :: (((a11 0) :: ((a11 1) :: ((a11 2) :: ((a11 3) :: ((a11 4) :: ((a11 5) :: ((a11 6) :: ((a11 7) :: [])))))))) ++ (q5 :: []))))))) := w_g41.new nq43 eg44
      refine lv_dup cx.1 cx.2.1 dX1_init_88 rfl ?_
      refine lv_bipush (v := 32) cx.1 cx.2.1 dX1_init_89 (by decide) ?_
      refine hp_callIv (As := [.int 32]) (rest := [.ref q43, .ref h]) cx hw (k_Row_init l D cA E _ g44 q43 0 32 32 f45 (by decide) (by decide) (by decide)) (cwI 1 cx.2.2.2.2.2.1 gX1_init_X6_init rfl rfl rfl (cx.2.2.2.2.2.1 _ m_X1_init_z6) (cx.2.2.2.2.2.1 _ m_X1_init_l39) (cx.2.2.2.2.2.1 _ m_X1_init_j39) rfl (by decide +kernel) ⟨Nat.le_of_ble_eq_true rfl, Nat.le_of_ble_eq_true rfl⟩) rfl hl.1 rfl (Nat.le_of_ble_eq_true rfl) dX1_init_91 ⟨Nat.le_of_ble_eq_true rfl, Nat.le_of_ble_eq_true rfl⟩ (fun u46 H locs hp48 hw => ?_)
      obtain ⟨k49, g50, nk49, eg50, eu46⟩ := hp48
      have f51 : g50 k49 = some (.inl (cA 2, 32, .inr (.inl (fun _ => 0)))) := (by rw [eg50]; exact hp_up_self _ _ _)
      have w_g50 : nw h g g50 (k49 :: (q43 :: (k33 :: (q27 :: (plL 9 P 8 ++ (q16 :: (((a11 0) :: ((a11 1) :: ((a11 2) :: ((a11 3) :: ((a11 4) :: ((a11 5) :: ((a11 6) :: ((a11 7) :: [])))))))) ++ (q5 :: [])))))))) := w_g44.new nk49 eg50
      have f52 : u46 q43 = some (.inr (6, [.ref k49, .int 0])) := (by rw [eu46]; exact hp_up_self _ _ _)
      have w_u46 : nw h g u46 (k49 :: (q43 :: (k33 :: (q27 :: (plL 9 P 8 ++ (q16 :: (((a11 0) :: ((a11 1) :: ((a11 2) :: ((a11 3) :: ((a11 4) :: ((a11 5) :: ((a11 6) :: ((a11 7) :: [])))))))) ++ (q5 :: [])))))))) := w_g50.put (Or.inr (List.mem_cons_of_mem _ (List.mem_cons_self))) eu46
      have f53 : g44 h = some (.inr (1, [.ref pln, .ref pol, .ref q5, .ref q16, .ref q27, .null, .null, .null, .int 0, .int 0, .int 0, .int 0, .int 0, .int 0, .int 0, .int 0, .int 0, .int 0, .ref (P 0 0), .int 0])) := (by rw [eg44]; exact (hp_up_ne _ _ (hp_neN f42 nq43)).trans f42)
      have f54 : g50 h = some (.inr (1, [.ref pln, .ref pol, .ref q5, .ref q16, .ref q27, .null, .null, .null, .int 0, .int 0, .int 0, .int 0, .int 0, .int 0, .int 0, .int 0, .int 0, .int 0, .ref (P 0 0), .int 0])) := (by rw [eg50]; exact (hp_up_ne _ _ (hp_neN f53 nk49)).trans f53)
      have f55 : g50 q43 = some (.inr (6, [.null, .int 0])) := (by rw [eg50]; exact (hp_up_ne _ _ (hp_neN f45 nk49)).trans f45)
      have f56 : u46 h = some (.inr (1, [.ref pln, .ref pol, .ref q5, .ref q16, .ref q27, .null, .null, .null, .int 0, .int 0, .int 0, .int 0, .int 0, .int 0, .int 0, .int 0, .int 0, .int 0, .ref (P 0 0), .int 0])) := (by rw [eu46]; exact (hp_up_ne _ _ (hp_neK f54 f55 (by decide))).trans f54)
      refine hp_putF (C := RX1) (T := TX1) (N := 20) (ci := 1) (fs' := [.ref pln, .ref pol, .ref q5, .ref q16, .ref q27, .ref q43, .null, .null, .int 0, .int 0, .int 0, .int 0, .int 0, .int 0, .int 0, .int 0, .int 0, .int 0, .ref (P 0 0), .int 0]) cx hw i_X1_init_X1 tyX1_ok nmX1 rfl f56 5 (by decide) m_X1_init_f46 rfl rfl rfl rfl rfl (Nat.le_of_ble_eq_true rfl) rfl dX1_init_94 (fun g57 H locs eg57 hw => ?_)
      have f58 : g57 h = some (.inr (1, [.ref pln, .ref pol, .ref q5, .ref q16, .ref q27, .ref q43, .null, .null, .int 0, .int 0, .int 0, .int 0, .int 0, .int 0, .int 0, .int 0, .int 0, .int 0, .ref (P 0 0), .int 0])) := (by rw [eg57]; exact hp_up_self _ _ _)
      have w_g57 : nw h g g57 (k49 :: (q43 :: (k33 :: (q27 :: (plL 9 P 8 ++ (q16 :: (((a11 0) :: ((a11 1) :: ((a11 2) :: ((a11 3) :: ((a11 4) :: ((a11 5) :: ((a11 6) :: ((a11 7) :: [])))))))) ++ (q5 :: [])))))))) := w_u46.put (Or.inl rfl) eg57
      refine lv_aload_n cx.1 cx.2.1 dX1_init_97 rfl (lv_at hl 1 rfl) ?_
      refine hp_new (C := RX6) (T := TX6) (N := 2) (ci := 6) (fs := [.null, .int 0]) cx hw i_X1_init_X6 tyX6_ok rfl m_X1_init_k37 m_X1_init_n6 m_X1_init_z6 nwX6 (by exact Nat.le_of_ble_eq_true rfl) (by exact Nat.le_of_ble_eq_true rfl) dX1_init_98 (fun q59 g60 H nq59 eg60 hw => ?_)
      have f61 : g60 q59 = some (.inr (6, [.null, .int 0])) := (by rw [eg60]; exact hp_up_self _ _ _)
      have w_g60 : nw h g g60 (q59 :: (k49 :: (q43 :: (k33 :: (q27 :: (plL 9 P 8 ++ (q16 :: (((a11 0) :: ((a11 1) :: ((a11 2) :: ((a11 3) :: ((a11 4) :: ((a11 5) :: ((a11 6) :: ((a11 7) :: [])))))))) ++ (q5 :: []))))))))) := w_g57.new nq59 eg60
      refine lv_dup cx.1 cx.2.1 dX1_init_101 rfl ?_
      refine lv_bipush (v := 64) cx.1 cx.2.1 dX1_init_102 (by decide) ?_
      refine hp_callIv (As := [.int 64]) (rest := [.ref q59, .ref h]) cx hw (k_Row_init l D cA E _ g60 q59 0 64 64 f61 (by decide) (by decide) (by decide)) (cwI 1 cx.2.2.2.2.2.1 gX1_init_X6_init rfl rfl rfl (cx.2.2.2.2.2.1 _ m_X1_init_z6) (cx.2.2.2.2.2.1 _ m_X1_init_l39) (cx.2.2.2.2.2.1 _ m_X1_init_j39) rfl (by decide +kernel) ⟨Nat.le_of_ble_eq_true rfl, Nat.le_of_ble_eq_true rfl⟩) rfl hl.1 rfl (Nat.le_of_ble_eq_true rfl) dX1_init_104 ⟨Nat.le_of_ble_eq_true rfl, Nat.le_of_ble_eq_true rfl⟩ (fun u62 H locs hp64 hw => ?_)
      obtain ⟨k65, g66, nk65, eg66, eu62⟩ := hp64
      have f67 : g66 k65 = some (.inl (cA 2, 64, .inr (.inl (fun _ => 0)))) := (by rw [eg66]; exact hp_up_self _ _ _)
      have w_g66 : nw h g g66 (k65 :: (q59 :: (k49 :: (q43 :: (k33 :: (q27 :: (plL 9 P 8 ++ (q16 :: (((a11 0) :: ((a11 1) :: ((a11 2) :: ((a11 3) :: ((a11 4) :: ((a11 5) :: ((a11 6) :: ((a11 7) :: [])))))))) ++ (q5 :: [])))))))))) := w_g60.new nk65 eg66
      have f68 : u62 q59 = some (.inr (6, [.ref k65, .int 0])) := (by rw [eu62]; exact hp_up_self _ _ _)
      have w_u62 : nw h g u62 (k65 :: (q59 :: (k49 :: (q43 :: (k33 :: (q27 :: (plL 9 P 8 ++ (q16 :: (((a11 0) :: ((a11 1) :: ((a11 2) :: ((a11 3) :: ((a11 4) :: ((a11 5) :: ((a11 6) :: ((a11 7) :: [])))))))) ++ (q5 :: [])))))))))) := w_g66.put (Or.inr (List.mem_cons_of_mem _ (List.mem_cons_self))) eu62
      have f69 : g60 h = some (.inr (1, [.ref pln, .ref pol, .ref q5, .ref q16, .ref q27, .ref q43, .null, .null, .int 0, .int 0, .int 0, .int 0, .int 0, .int 0, .int 0, .int 0, .int 0, .int 0, .ref (P 0 0), .int 0])) := (by rw [eg60]; exact (hp_up_ne _ _ (hp_neN f58 nq59)).trans f58)
      have f70 : g66 h = some (.inr (1, [.ref pln, .ref pol, .ref q5, .ref q16, .ref q27, .ref q43, .null, .null, .int 0, .int 0, .int 0, .int 0, .int 0, .int 0, .int 0, .int 0, .int 0, .int 0, .ref (P 0 0), .int 0])) := (by rw [eg66]; exact (hp_up_ne _ _ (hp_neN f69 nk65)).trans f69)
      have f71 : g66 q59 = some (.inr (6, [.null, .int 0])) := (by rw [eg66]; exact (hp_up_ne _ _ (hp_neN f61 nk65)).trans f61)
      have f72 : u62 h = some (.inr (1, [.ref pln, .ref pol, .ref q5, .ref q16, .ref q27, .ref q43, .null, .null, .int 0, .int 0, .int 0, .int 0, .int 0, .int 0, .int 0, .int 0, .int 0, .int 0, .ref (P 0 0), .int 0])) := (by rw [eu62]; exact (hp_up_ne _ _ (hp_neK f70 f71 (by decide))).trans f70)
      refine hp_putF (C := RX1) (T := TX1) (N := 20) (ci := 1) (fs' := [.ref pln, .ref pol, .ref q5, .ref q16, .ref q27, .ref q43, .ref q59, .null, .int 0, .int 0, .int 0, .int 0, .int 0, .int 0, .int 0, .int 0, .int 0, .int 0, .ref (P 0 0), .int 0]) cx hw i_X1_init_X1 tyX1_ok nmX1 rfl f72 6 (by decide) m_X1_init_f49 rfl rfl rfl rfl rfl (Nat.le_of_ble_eq_true rfl) rfl dX1_init_107 (fun g73 H locs eg73 hw => ?_)
      have f74 : g73 h = some (.inr (1, [.ref pln, .ref pol, .ref q5, .ref q16, .ref q27, .ref q43, .ref q59, .null, .int 0, .int 0, .int 0, .int 0, .int 0, .int 0, .int 0, .int 0, .int 0, .int 0, .ref (P 0 0), .int 0])) := (by rw [eg73]; exact hp_up_self _ _ _)
      have w_g73 : nw h g g73 (k65 :: (q59 :: (k49 :: (q43 :: (k33 :: (q27 :: (plL 9 P 8 ++ (q16 :: (((a11 0) :: ((a11 1) :: ((a11 2) :: ((a11 3) :: ((a11 4) :: ((a11 5) :: ((a11 6) :: ((a11 7) :: [])))))))) ++ (q5 :: [])))))))))) := w_u62.put (Or.inl rfl) eg73
      refine lv_aload_n cx.1 cx.2.1 dX1_init_110 rfl (lv_at hl 1 rfl) ?_
      refine hp_new (C := RX6) (T := TX6) (N := 2) (ci := 6) (fs := [.null, .int 0]) cx hw i_X1_init_X6 tyX6_ok rfl m_X1_init_k37 m_X1_init_n6 m_X1_init_z6 nwX6 (by exact Nat.le_of_ble_eq_true rfl) (by exact Nat.le_of_ble_eq_true rfl) dX1_init_111 (fun q75 g76 H nq75 eg76 hw => ?_)
      have f77 : g76 q75 = some (.inr (6, [.null, .int 0])) := (by rw [eg76]; exact hp_up_self _ _ _)
      have w_g76 : nw h g g76 (q75 :: (k65 :: (q59 :: (k49 :: (q43 :: (k33 :: (q27 :: (plL 9 P 8 ++ (q16 :: (((a11 0) :: ((a11 1) :: ((a11 2) :: ((a11 3) :: ((a11 4) :: ((a11 5) :: ((a11 6) :: ((a11 7) :: [])))))))) ++ (q5 :: []))))))))))) := w_g73.new nq75 eg76
      refine lv_dup cx.1 cx.2.1 dX1_init_114 rfl ?_
      refine lv_bipush (v := 80) cx.1 cx.2.1 dX1_init_115 (by decide) ?_
      refine hp_callIv (As := [.int 80]) (rest := [.ref q75, .ref h]) cx hw (k_Row_init l D cA E _ g76 q75 0 80 80 f77 (by decide) (by decide) (by decide)) (cwI 1 cx.2.2.2.2.2.1 gX1_init_X6_init rfl rfl rfl (cx.2.2.2.2.2.1 _ m_X1_init_z6) (cx.2.2.2.2.2.1 _ m_X1_init_l39) (cx.2.2.2.2.2.1 _ m_X1_init_j39) rfl (by decide +kernel) ⟨Nat.le_of_ble_eq_true rfl, Nat.le_of_ble_eq_true rfl⟩) rfl hl.1 rfl (Nat.le_of_ble_eq_true rfl) dX1_init_117 ⟨Nat.le_of_ble_eq_true rfl, Nat.le_of_ble_eq_true rfl⟩ (fun u78 H locs hp80 hw => ?_)
      obtain ⟨k81, g82, nk81, eg82, eu78⟩ := hp80
      have f83 : g82 k81 = some (.inl (cA 2, 80, .inr (.inl (fun _ => 0)))) := (by rw [eg82]; exact hp_up_self _ _ _)
      have w_g82 : nw h g g82 (k81 :: (q75 :: (k65 :: (q59 :: (k49 :: (q43 :: (k33 :: (q27 :: (plL 9 P 8 ++ (q16 :: (((a11 0) :: ((a11 1) :: ((a11 2) :: ((a11 3) :: ((a11 4) :: ((a11 5) :: ((a11 6) :: ((a11 7) :: [])))))))) ++ (q5 :: [])))))))))))) := w_g76.new nk81 eg82
      have f84 : u78 q75 = some (.inr (6, [.ref k81, .int 0])) := (by rw [eu78]; exact hp_up_self _ _ _)
      have w_u78 : nw h g u78 (k81 :: (q75 :: (k65 :: (q59 :: (k49 :: (q43 :: (k33 :: (q27 :: (plL 9 P 8 ++ (q16 :: (((a11 0) :: ((a11 1) :: ((a11 2) :: ((a11 3) :: ((a11 4) :: ((a11 5) :: ((a11 6) :: ((a11 7) :: [])))))))) ++ (q5 :: [])))))))))))) := w_g82.put (Or.inr (List.mem_cons_of_mem _ (List.mem_cons_self))) eu78
      have f85 : g76 h = some (.inr (1, [.ref pln, .ref pol, .ref q5, .ref q16, .ref q27, .ref q43, .ref q59, .null, .int 0, .int 0, .int 0, .int 0, .int 0, .int 0, .int 0, .int 0, .int 0, .int 0, .ref (P 0 0), .int 0])) := (by rw [eg76]; exact (hp_up_ne _ _ (hp_neN f74 nq75)).trans f74)
      have f86 : g82 h = some (.inr (1, [.ref pln, .ref pol, .ref q5, .ref q16, .ref q27, .ref q43, .ref q59, .null, .int 0, .int 0, .int 0, .int 0, .int 0, .int 0, .int 0, .int 0, .int 0, .int 0, .ref (P 0 0), .int 0])) := (by rw [eg82]; exact (hp_up_ne _ _ (hp_neN f85 nk81)).trans f85)
      have f87 : g82 q75 = some (.inr (6, [.null, .int 0])) := (by rw [eg82]; exact (hp_up_ne _ _ (hp_neN f77 nk81)).trans f77)
      have f88 : u78 h = some (.inr (1, [.ref pln, .ref pol, .ref q5, .ref q16, .ref q27, .ref q43, .ref q59, .null, .int 0, .int 0, .int 0, .int 0, .int 0, .int 0, .int 0, .int 0, .int 0, .int 0, .ref (P 0 0), .int 0])) := (by rw [eu78]; exact (hp_up_ne _ _ (hp_neK f86 f87 (by decide))).trans f86)
      refine hp_putF (C := RX1) (T := TX1) (N := 20) (ci := 1) (fs' := [.ref pln, .ref pol, .ref q5, .ref q16, .ref q27, .ref q43, .ref q59, .ref q75, .int 0, .int 0, .int 0, .int 0, .int 0, .int 0, .int 0, .int 0, .int 0, .int 0, .ref (P 0 0), .int 0]) cx hw i_X1_init_X1 tyX1_ok nmX1 rfl f88 7 (by decide) m_X1_init_f52 rfl rfl rfl rfl rfl (Nat.le_of_ble_eq_true rfl) rfl dX1_init_120 (fun g89 H locs eg89 hw => ?_)
      have f90 : g89 h = some (.inr (1, [.ref pln, .ref pol, .ref q5, .ref q16, .ref q27, .ref q43, .ref q59, .ref q75, .int 0, .int 0, .int 0, .int 0, .int 0, .int 0, .int 0, .int 0, .int 0, .int 0, .ref (P 0 0), .int 0])) := (by rw [eg89]; exact hp_up_self _ _ _)
      have w_g89 : nw h g g89 (k81 :: (q75 :: (k65 :: (q59 :: (k49 :: (q43 :: (k33 :: (q27 :: (plL 9 P 8 ++ (q16 :: (((a11 0) :: ((a11 1) :: ((a11 2) :: ((a11 3) :: ((a11 4) :: ((a11 5) :: ((a11 6) :: ((a11 7) :: [])))))))) ++ (q5 :: [])))))))))))) := w_u78.put (Or.inl rfl) eg89
      have f91 : u78 k81 = some (.inl (cA 2, 80, .inr (.inl (fun _ => 0)))) := (by rw [eu78]; exact (hp_up_ne _ _ (hp_neAO f83 f87)).trans f83)
      have f92 : g89 k81 = some (.inl (cA 2, 80, .inr (.inl (fun _ => 0)))) := (by rw [eg89]; exact (hp_up_ne _ _ (hp_neAO f91 f88)).trans f91)
      have f93 : g89 q75 = some (.inr (6, [.ref k81, .int 0])) := (by rw [eg89]; exact (hp_up_ne _ _ (hp_neK f84 f88 (by decide))).trans f84)
      have f94 : u62 k65 = some (.inl (cA 2, 64, .inr (.inl (fun _ => 0)))) := (by rw [eu62]; exact (hp_up_ne _ _ (hp_neAO f67 f71)).trans f67)
      have f95 : g73 k65 = some (.inl (cA 2, 64, .inr (.inl (fun _ => 0)))) := (by rw [eg73]; exact (hp_up_ne _ _ (hp_neAO f94 f72)).trans f94)
      have f96 : g76 k65 = some (.inl (cA 2, 64, .inr (.inl (fun _ => 0)))) := (by rw [eg76]; exact (hp_up_ne _ _ (hp_neN f95 nq75)).trans f95)
      have f97 : g82 k65 = some (.inl (cA 2, 64, .inr (.inl (fun _ => 0)))) := (by rw [eg82]; exact (hp_up_ne _ _ (hp_neN f96 nk81)).trans f96)
      have f98 : u78 k65 = some (.inl (cA 2, 64, .inr (.inl (fun _ => 0)))) := (by rw [eu78]; exact (hp_up_ne _ _ (hp_neAO f97 f87)).trans f97)
      have f99 : g89 k65 = some (.inl (cA 2, 64, .inr (.inl (fun _ => 0)))) := (by rw [eg89]; exact (hp_up_ne _ _ (hp_neAO f98 f88)).trans f98)
      have f100 : g73 q59 = some (.inr (6, [.ref k65, .int 0])) := (by rw [eg73]; exact (hp_up_ne _ _ (hp_neK f68 f72 (by decide))).trans f68)
      have f101 : g76 q59 = some (.inr (6, [.ref k65, .int 0])) := (by rw [eg76]; exact (hp_up_ne _ _ (hp_neN f100 nq75)).trans f100)
      have f102 : g82 q59 = some (.inr (6, [.ref k65, .int 0])) := (by rw [eg82]; exact (hp_up_ne _ _ (hp_neN f101 nk81)).trans f101)
      have f103 : u78 q59 = some (.inr (6, [.ref k65, .int 0])) := (by rw [eu78]; exact (hp_up_ne _ _ (hp_neN f100 nq75)).trans f102)
      have f104 : g89 q59 = some (.inr (6, [.ref k65, .int 0])) := (by rw [eg89]; exact (hp_up_ne _ _ (hp_neK f103 f88 (by decide))).trans f103)
      have f105 : u46 k49 = some (.inl (cA 2, 32, .inr (.inl (fun _ => 0)))) := (by rw [eu46]; exact (hp_up_ne _ _ (hp_neAO f51 f55)).trans f51)
      have f106 : g57 k49 = some (.inl (cA 2, 32, .inr (.inl (fun _ => 0)))) := (by rw [eg57]; exact (hp_up_ne _ _ (hp_neAO f105 f56)).trans f105)
      have f107 : g60 k49 = some (.inl (cA 2, 32, .inr (.inl (fun _ => 0)))) := (by rw [eg60]; exact (hp_up_ne _ _ (hp_neN f106 nq59)).trans f106)
      have f108 : g66 k49 = some (.inl (cA 2, 32, .inr (.inl (fun _ => 0)))) := (by rw [eg66]; exact (hp_up_ne _ _ (hp_neN f107 nk65)).trans f107)
      have f109 : u62 k49 = some (.inl (cA 2, 32, .inr (.inl (fun _ => 0)))) := (by rw [eu62]; exact (hp_up_ne _ _ (hp_neAO f108 f71)).trans f108)
      have f110 : g73 k49 = some (.inl (cA 2, 32, .inr (.inl (fun _ => 0)))) := (by rw [eg73]; exact (hp_up_ne _ _ (hp_neAO f109 f72)).trans f109)
      have f111 : g76 k49 = some (.inl (cA 2, 32, .inr (.inl (fun _ => 0)))) := (by rw [eg76]; exact (hp_up_ne _ _ (hp_neN f110 nq75)).trans f110)
      have f112 : g82 k49 = some (.inl (cA 2, 32, .inr (.inl (fun _ => 0)))) := (by rw [eg82]; exact (hp_up_ne _ _ (hp_neN f111 nk81)).trans f111)
      have f113 : u78 k49 = some (.inl (cA 2, 32, .inr (.inl (fun _ => 0)))) := (by rw [eu78]; exact (hp_up_ne _ _ (hp_neAO f112 f87)).trans f112)
      have f114 : g89 k49 = some (.inl (cA 2, 32, .inr (.inl (fun _ => 0)))) := (by rw [eg89]; exact (hp_up_ne _ _ (hp_neAO f113 f88)).trans f113)
      have f115 : g57 q43 = some (.inr (6, [.ref k49, .int 0])) := (by rw [eg57]; exact (hp_up_ne _ _ (hp_neK f52 f56 (by decide))).trans f52)
      have f116 : g60 q43 = some (.inr (6, [.ref k49, .int 0])) := (by rw [eg60]; exact (hp_up_ne _ _ (hp_neN f115 nq59)).trans f115)
      have f117 : g66 q43 = some (.inr (6, [.ref k49, .int 0])) := (by rw [eg66]; exact (hp_up_ne _ _ (hp_neN f116 nk65)).trans f116)
      have f118 : u62 q43 = some (.inr (6, [.ref k49, .int 0])) := (by rw [eu62]; exact (hp_up_ne _ _ (hp_neN f115 nq59)).trans f117)
      have f119 : g73 q43 = some (.inr (6, [.ref k49, .int 0])) := (by rw [eg73]; exact (hp_up_ne _ _ (hp_neK f118 f72 (by decide))).trans f118)
      have f120 : g76 q43 = some (.inr (6, [.ref k49, .int 0])) := (by rw [eg76]; exact (hp_up_ne _ _ (hp_neN f119 nq75)).trans f119)
      have f121 : g82 q43 = some (.inr (6, [.ref k49, .int 0])) := (by rw [eg82]; exact (hp_up_ne _ _ (hp_neN f120 nk81)).trans f120)
      have f122 : u78 q43 = some (.inr (6, [.ref k49, .int 0])) := (by rw [eu78]; exact (hp_up_ne _ _ (hp_neN f119 nq75)).trans f121)
      have f123 : g89 q43 = some (.inr (6, [.ref k49, .int 0])) := (by rw [eg89]; exact (hp_up_ne _ _ (hp_neK f122 f88 (by decide))).trans f122)
      have f124 : u30 k33 = some (.inl (cA 2, 48, .inr (.inl (fun _ => 0)))) := (by rw [eu30]; exact (hp_up_ne _ _ (hp_neAO f35 f39)).trans f35)
      have f125 : g41 k33 = some (.inl (cA 2, 48, .inr (.inl (fun _ => 0)))) := (by rw [eg41]; exact (hp_up_ne _ _ (hp_neAO f124 f40)).trans f124)
      have f126 : g44 k33 = some (.inl (cA 2, 48, .inr (.inl (fun _ => 0)))) := (by rw [eg44]; exact (hp_up_ne _ _ (hp_neN f125 nq43)).trans f125)
      have f127 : g50 k33 = some (.inl (cA 2, 48, .inr (.inl (fun _ => 0)))) := (by rw [eg50]; exact (hp_up_ne _ _ (hp_neN f126 nk49)).trans f126)
      have f128 : u46 k33 = some (.inl (cA 2, 48, .inr (.inl (fun _ => 0)))) := (by rw [eu46]; exact (hp_up_ne _ _ (hp_neAO f127 f55)).trans f127)
      have f129 : g57 k33 = some (.inl (cA 2, 48, .inr (.inl (fun _ => 0)))) := (by rw [eg57]; exact (hp_up_ne _ _ (hp_neAO f128 f56)).trans f128)
      have f130 : g60 k33 = some (.inl (cA 2, 48, .inr (.inl (fun _ => 0)))) := (by rw [eg60]; exact (hp_up_ne _ _ (hp_neN f129 nq59)).trans f129)
      have f131 : g66 k33 = some (.inl (cA 2, 48, .inr (.inl (fun _ => 0)))) := (by rw [eg66]; exact (hp_up_ne _ _ (hp_neN f130 nk65)).trans f130)
      have f132 : u62 k33 = some (.inl (cA 2, 48, .inr (.inl (fun _ => 0)))) := (by rw [eu62]; exact (hp_up_ne _ _ (hp_neAO f131 f71)).trans f131)
      have f133 : g73 k33 = some (.inl (cA 2, 48, .inr (.inl (fun _ => 0)))) := (by rw [eg73]; exact (hp_up_ne _ _ (hp_neAO f132 f72)).trans f132)
      have f134 : g76 k33 = some (.inl (cA 2, 48, .inr (.inl (fun _ => 0)))) := (by rw [eg76]; exact (hp_up_ne _ _ (hp_neN f133 nq75)).trans f133)
      have f135 : g82 k33 = some (.inl (cA 2, 48, .inr (.inl (fun _ => 0)))) := (by rw [eg82]; exact (hp_up_ne _ _ (hp_neN f134 nk81)).trans f134)
      have f136 : u78 k33 = some (.inl (cA 2, 48, .inr (.inl (fun _ => 0)))) := (by rw [eu78]; exact (hp_up_ne _ _ (hp_neAO f135 f87)).trans f135)
      have f137 : g89 k33 = some (.inl (cA 2, 48, .inr (.inl (fun _ => 0)))) := (by rw [eg89]; exact (hp_up_ne _ _ (hp_neAO f136 f88)).trans f136)
      have f138 : g41 q27 = some (.inr (6, [.ref k33, .int 0])) := (by rw [eg41]; exact (hp_up_ne _ _ (hp_neK f36 f40 (by decide))).trans f36)
      have f139 : g44 q27 = some (.inr (6, [.ref k33, .int 0])) := (by rw [eg44]; exact (hp_up_ne _ _ (hp_neN f138 nq43)).trans f138)
      have f140 : g50 q27 = some (.inr (6, [.ref k33, .int 0])) := (by rw [eg50]; exact (hp_up_ne _ _ (hp_neN f139 nk49)).trans f139)
      have f141 : u46 q27 = some (.inr (6, [.ref k33, .int 0])) := (by rw [eu46]; exact (hp_up_ne _ _ (hp_neN f138 nq43)).trans f140)
      have f142 : g57 q27 = some (.inr (6, [.ref k33, .int 0])) := (by rw [eg57]; exact (hp_up_ne _ _ (hp_neK f141 f56 (by decide))).trans f141)
      have f143 : g60 q27 = some (.inr (6, [.ref k33, .int 0])) := (by rw [eg60]; exact (hp_up_ne _ _ (hp_neN f142 nq59)).trans f142)
      have f144 : g66 q27 = some (.inr (6, [.ref k33, .int 0])) := (by rw [eg66]; exact (hp_up_ne _ _ (hp_neN f143 nk65)).trans f143)
      have f145 : u62 q27 = some (.inr (6, [.ref k33, .int 0])) := (by rw [eu62]; exact (hp_up_ne _ _ (hp_neN f142 nq59)).trans f144)
      have f146 : g73 q27 = some (.inr (6, [.ref k33, .int 0])) := (by rw [eg73]; exact (hp_up_ne _ _ (hp_neK f145 f72 (by decide))).trans f145)
      have f147 : g76 q27 = some (.inr (6, [.ref k33, .int 0])) := (by rw [eg76]; exact (hp_up_ne _ _ (hp_neN f146 nq75)).trans f146)
      have f148 : g82 q27 = some (.inr (6, [.ref k33, .int 0])) := (by rw [eg82]; exact (hp_up_ne _ _ (hp_neN f147 nk81)).trans f147)
      have f149 : u78 q27 = some (.inr (6, [.ref k33, .int 0])) := (by rw [eu78]; exact (hp_up_ne _ _ (hp_neN f146 nq75)).trans f148)
      have f150 : g89 q27 = some (.inr (6, [.ref k33, .int 0])) := (by rw [eg89]; exact (hp_up_ne _ _ (hp_neK f149 f88 (by decide))).trans f149)
      have f151 : g25 q16 = some (.inl (cA 5, 8, .inr (.inr (.inr (.inr (pl_row P 8)))))) := (by rw [eg25]; exact (hp_up_ne _ _ (hp_neAO h1 f24)).trans h1)
      have f152 : g28 q16 = some (.inl (cA 5, 8, .inr (.inr (.inr (.inr (pl_row P 8)))))) := (by rw [eg28]; exact (hp_up_ne _ _ (hp_neN f151 nq27)).trans f151)
      have f153 : g34 q16 = some (.inl (cA 5, 8, .inr (.inr (.inr (.inr (pl_row P 8)))))) := (by rw [eg34]; exact (hp_up_ne _ _ (hp_neN f152 nk33)).trans f152)
      have f154 : u30 q16 = some (.inl (cA 5, 8, .inr (.inr (.inr (.inr (pl_row P 8)))))) := (by rw [eu30]; exact (hp_up_ne _ _ (hp_neAO f153 f39)).trans f153)
      have f155 : g41 q16 = some (.inl (cA 5, 8, .inr (.inr (.inr (.inr (pl_row P 8)))))) := (by rw [eg41]; exact (hp_up_ne _ _ (hp_neAO f154 f40)).trans f154)
      have f156 : g44 q16 = some (.inl (cA 5, 8, .inr (.inr (.inr (.inr (pl_row P 8)))))) := (by rw [eg44]; exact (hp_up_ne _ _ (hp_neN f155 nq43)).trans f155)
      have f157 : g50 q16 = some (.inl (cA 5, 8, .inr (.inr (.inr (.inr (pl_row P 8)))))) := (by rw [eg50]; exact (hp_up_ne _ _ (hp_neN f156 nk49)).trans f156)
      have f158 : u46 q16 = some (.inl (cA 5, 8, .inr (.inr (.inr (.inr (pl_row P 8)))))) := (by rw [eu46]; exact (hp_up_ne _ _ (hp_neAO f157 f55)).trans f157)
      have f159 : g57 q16 = some (.inl (cA 5, 8, .inr (.inr (.inr (.inr (pl_row P 8)))))) := (by rw [eg57]; exact (hp_up_ne _ _ (hp_neAO f158 f56)).trans f158)
      have f160 : g60 q16 = some (.inl (cA 5, 8, .inr (.inr (.inr (.inr (pl_row P 8)))))) := (by rw [eg60]; exact (hp_up_ne _ _ (hp_neN f159 nq59)).trans f159)
      have f161 : g66 q16 = some (.inl (cA 5, 8, .inr (.inr (.inr (.inr (pl_row P 8)))))) := (by rw [eg66]; exact (hp_up_ne _ _ (hp_neN f160 nk65)).trans f160)
      have f162 : u62 q16 = some (.inl (cA 5, 8, .inr (.inr (.inr (.inr (pl_row P 8)))))) := (by rw [eu62]; exact (hp_up_ne _ _ (hp_neAO f161 f71)).trans f161)
      have f163 : g73 q16 = some (.inl (cA 5, 8, .inr (.inr (.inr (.inr (pl_row P 8)))))) := (by rw [eg73]; exact (hp_up_ne _ _ (hp_neAO f162 f72)).trans f162)
      have f164 : g76 q16 = some (.inl (cA 5, 8, .inr (.inr (.inr (.inr (pl_row P 8)))))) := (by rw [eg76]; exact (hp_up_ne _ _ (hp_neN f163 nq75)).trans f163)
      have f165 : g82 q16 = some (.inl (cA 5, 8, .inr (.inr (.inr (.inr (pl_row P 8)))))) := (by rw [eg82]; exact (hp_up_ne _ _ (hp_neN f164 nk81)).trans f164)
      have f166 : u78 q16 = some (.inl (cA 5, 8, .inr (.inr (.inr (.inr (pl_row P 8)))))) := (by rw [eu78]; exact (hp_up_ne _ _ (hp_neAO f165 f87)).trans f165)
      have f167 : g89 q16 = some (.inl (cA 5, 8, .inr (.inr (.inr (.inr (pl_row P 8)))))) := (by rw [eg89]; exact (hp_up_ne _ _ (hp_neAO f166 f88)).trans f166)
      have y_u8 : hp_extX h u8 g89 := by
        intro b e hb hg
        have b_g14 : g14 b = some e := by rw [eg14]; exact (hp_up_ne _ _ (hb)).trans hg
        have b_g17 : g17 b = some e := by rw [eg17]; exact (hp_up_ne _ _ (hp_neN b_g14 nq16)).trans b_g14
        have b_g20 : g20 b = some e := by rw [eg20]; exact (hp_up_ne _ _ (hb)).trans b_g17
        have b_gi := h4.2.2.1 b e (hp_neN hg (hp_up_none eg14 (nq16))) b_g20
        have b_g25 : g25 b = some e := by rw [eg25]; exact (hp_up_ne _ _ (hb)).trans b_gi
        have b_g28 : g28 b = some e := by rw [eg28]; exact (hp_up_ne _ _ (hp_neN b_g25 nq27)).trans b_g25
        have b_g34 : g34 b = some e := by rw [eg34]; exact (hp_up_ne _ _ (hp_neN b_g28 nk33)).trans b_g28
        have b_u30 : u30 b = some e := by rw [eu30]; exact (hp_up_ne _ _ (hp_neN hg (hp_up_none eg14 (hp_up_none eg17 (hp_up_none eg20 (hp_extX_none h4.2.2.1 (h1) (hp_up_none eg25 (nq27)))))))).trans b_g34
        have b_g41 : g41 b = some e := by rw [eg41]; exact (hp_up_ne _ _ (hb)).trans b_u30
        have b_g44 : g44 b = some e := by rw [eg44]; exact (hp_up_ne _ _ (hp_neN b_g41 nq43)).trans b_g41
        have b_g50 : g50 b = some e := by rw [eg50]; exact (hp_up_ne _ _ (hp_neN b_g44 nk49)).trans b_g44
        have b_u46 : u46 b = some e := by rw [eu46]; exact (hp_up_ne _ _ (hp_neN hg (hp_up_none eg14 (hp_up_none eg17 (hp_up_none eg20 (hp_extX_none h4.2.2.1 (h1) (hp_up_none eg25 (hp_up_none eg28 (hp_up_none eg34 (hp_up_none eu30 (hp_up_none eg41 (nq43)))))))))))).trans b_g50
        have b_g57 : g57 b = some e := by rw [eg57]; exact (hp_up_ne _ _ (hb)).trans b_u46
        have b_g60 : g60 b = some e := by rw [eg60]; exact (hp_up_ne _ _ (hp_neN b_g57 nq59)).trans b_g57
        have b_g66 : g66 b = some e := by rw [eg66]; exact (hp_up_ne _ _ (hp_neN b_g60 nk65)).trans b_g60
        have b_u62 : u62 b = some e := by rw [eu62]; exact (hp_up_ne _ _ (hp_neN hg (hp_up_none eg14 (hp_up_none eg17 (hp_up_none eg20 (hp_extX_none h4.2.2.1 (h1) (hp_up_none eg25 (hp_up_none eg28 (hp_up_none eg34 (hp_up_none eu30 (hp_up_none eg41 (hp_up_none eg44 (hp_up_none eg50 (hp_up_none eu46 (hp_up_none eg57 (nq59)))))))))))))))).trans b_g66
        have b_g73 : g73 b = some e := by rw [eg73]; exact (hp_up_ne _ _ (hb)).trans b_u62
        have b_g76 : g76 b = some e := by rw [eg76]; exact (hp_up_ne _ _ (hp_neN b_g73 nq75)).trans b_g73
        have b_g82 : g82 b = some e := by rw [eg82]; exact (hp_up_ne _ _ (hp_neN b_g76 nk81)).trans b_g76
        have b_u78 : u78 b = some e := by rw [eu78]; exact (hp_up_ne _ _ (hp_neN hg (hp_up_none eg14 (hp_up_none eg17 (hp_up_none eg20 (hp_extX_none h4.2.2.1 (h1) (hp_up_none eg25 (hp_up_none eg28 (hp_up_none eg34 (hp_up_none eu30 (hp_up_none eg41 (hp_up_none eg44 (hp_up_none eg50 (hp_up_none eu46 (hp_up_none eg57 (hp_up_none eg60 (hp_up_none eg66 (hp_up_none eu62 (hp_up_none eg73 (nq75)))))))))))))))))))).trans b_g82
        have b_g89 : g89 b = some e := by rw [eg89]; exact (hp_up_ne _ _ (hb)).trans b_u78
        exact b_g89
      have z168 : g89 (a11 0) = some (.inl (cA 1, 14, .inl (fun _ => 0))) := w_u8.keep (List.mem_append_left _ (List.mem_cons_self)) c11_0 y_u8
      have z169 : g89 (a11 1) = some (.inl (cA 1, 256, .inl (fun _ => 0))) := w_u8.keep (List.mem_append_left _ (List.mem_cons_of_mem _ (List.mem_cons_self))) c11_1 y_u8
      have z170 : g89 (a11 2) = some (.inl (cA 2, 16, .inr (.inl (fun _ => 0)))) := w_u8.keep (List.mem_append_left _ (List.mem_cons_of_mem _ (List.mem_cons_of_mem _ (List.mem_cons_self)))) c11_2 y_u8
      have z171 : g89 (a11 3) = some (.inr (6, [.ref (a11 2), .int 0])) := w_u8.keep (List.mem_append_left _ (List.mem_cons_of_mem _ (List.mem_cons_of_mem _ (List.mem_cons_of_mem _ (List.mem_cons_self))))) c11_3 y_u8
      have z172 : g89 (a11 4) = some (.inl (cA 2, 32, .inr (.inl (fun _ => 0)))) := w_u8.keep (List.mem_append_left _ (List.mem_cons_of_mem _ (List.mem_cons_of_mem _ (List.mem_cons_of_mem _ (List.mem_cons_of_mem _ (List.mem_cons_self)))))) c11_4 y_u8
      have z173 : g89 (a11 5) = some (.inr (6, [.ref (a11 4), .int 0])) := w_u8.keep (List.mem_append_left _ (List.mem_cons_of_mem _ (List.mem_cons_of_mem _ (List.mem_cons_of_mem _ (List.mem_cons_of_mem _ (List.mem_cons_of_mem _ (List.mem_cons_self))))))) c11_5 y_u8
      have z174 : g89 (a11 6) = some (.inl (cA 2, 16, .inr (.inl (fun _ => 0)))) := w_u8.keep (List.mem_append_left _ (List.mem_cons_of_mem _ (List.mem_cons_of_mem _ (List.mem_cons_of_mem _ (List.mem_cons_of_mem _ (List.mem_cons_of_mem _ (List.mem_cons_of_mem _ (List.mem_cons_self)))))))) c11_6 y_u8
      have z175 : g89 (a11 7) = some (.inr (6, [.ref (a11 6), .int 0])) := w_u8.keep (List.mem_append_left _ (List.mem_cons_of_mem _ (List.mem_cons_of_mem _ (List.mem_cons_of_mem _ (List.mem_cons_of_mem _ (List.mem_cons_of_mem _ (List.mem_cons_of_mem _ (List.mem_cons_of_mem _ (List.mem_cons_self))))))))) c11_7 y_u8
      have f176 : g14 q5 = some (.inr (0, [.ref (a11 7), .ref (a11 5), .ref (a11 3), .ref (a11 1), .ref (a11 0), .int 0])) := (by rw [eg14]; exact (hp_up_ne _ _ (hp_neK hc11 f13 (by decide))).trans hc11)
      have f177 : g17 q5 = some (.inr (0, [.ref (a11 7), .ref (a11 5), .ref (a11 3), .ref (a11 1), .ref (a11 0), .int 0])) := (by rw [eg17]; exact (hp_up_ne _ _ (hp_neN f176 nq16)).trans f176)
      have f178 : g20 q5 = some (.inr (0, [.ref (a11 7), .ref (a11 5), .ref (a11 3), .ref (a11 1), .ref (a11 0), .int 0])) := (by rw [eg20]; exact (hp_up_ne _ _ (hp_neK f177 f19 (by decide))).trans f177)
      have f179 : gi q5 = some (.inr (0, [.ref (a11 7), .ref (a11 5), .ref (a11 3), .ref (a11 1), .ref (a11 0), .int 0])) := h4.2.2.1 _ _ (hp_neOA f178 f22) f178
      have f180 : g25 q5 = some (.inr (0, [.ref (a11 7), .ref (a11 5), .ref (a11 3), .ref (a11 1), .ref (a11 0), .int 0])) := (by rw [eg25]; exact (hp_up_ne _ _ (hp_neK f179 f24 (by decide))).trans f179)
      have f181 : g28 q5 = some (.inr (0, [.ref (a11 7), .ref (a11 5), .ref (a11 3), .ref (a11 1), .ref (a11 0), .int 0])) := (by rw [eg28]; exact (hp_up_ne _ _ (hp_neN f180 nq27)).trans f180)
      have f182 : g34 q5 = some (.inr (0, [.ref (a11 7), .ref (a11 5), .ref (a11 3), .ref (a11 1), .ref (a11 0), .int 0])) := (by rw [eg34]; exact (hp_up_ne _ _ (hp_neN f181 nk33)).trans f181)
      have f183 : u30 q5 = some (.inr (0, [.ref (a11 7), .ref (a11 5), .ref (a11 3), .ref (a11 1), .ref (a11 0), .int 0])) := (by rw [eu30]; exact (hp_up_ne _ _ (hp_neK f182 f39 (by decide))).trans f182)
      have f184 : g41 q5 = some (.inr (0, [.ref (a11 7), .ref (a11 5), .ref (a11 3), .ref (a11 1), .ref (a11 0), .int 0])) := (by rw [eg41]; exact (hp_up_ne _ _ (hp_neK f183 f40 (by decide))).trans f183)
      have f185 : g44 q5 = some (.inr (0, [.ref (a11 7), .ref (a11 5), .ref (a11 3), .ref (a11 1), .ref (a11 0), .int 0])) := (by rw [eg44]; exact (hp_up_ne _ _ (hp_neN f184 nq43)).trans f184)
      have f186 : g50 q5 = some (.inr (0, [.ref (a11 7), .ref (a11 5), .ref (a11 3), .ref (a11 1), .ref (a11 0), .int 0])) := (by rw [eg50]; exact (hp_up_ne _ _ (hp_neN f185 nk49)).trans f185)
      have f187 : u46 q5 = some (.inr (0, [.ref (a11 7), .ref (a11 5), .ref (a11 3), .ref (a11 1), .ref (a11 0), .int 0])) := (by rw [eu46]; exact (hp_up_ne _ _ (hp_neK f186 f55 (by decide))).trans f186)
      have f188 : g57 q5 = some (.inr (0, [.ref (a11 7), .ref (a11 5), .ref (a11 3), .ref (a11 1), .ref (a11 0), .int 0])) := (by rw [eg57]; exact (hp_up_ne _ _ (hp_neK f187 f56 (by decide))).trans f187)
      have f189 : g60 q5 = some (.inr (0, [.ref (a11 7), .ref (a11 5), .ref (a11 3), .ref (a11 1), .ref (a11 0), .int 0])) := (by rw [eg60]; exact (hp_up_ne _ _ (hp_neN f188 nq59)).trans f188)
      have f190 : g66 q5 = some (.inr (0, [.ref (a11 7), .ref (a11 5), .ref (a11 3), .ref (a11 1), .ref (a11 0), .int 0])) := (by rw [eg66]; exact (hp_up_ne _ _ (hp_neN f189 nk65)).trans f189)
      have f191 : u62 q5 = some (.inr (0, [.ref (a11 7), .ref (a11 5), .ref (a11 3), .ref (a11 1), .ref (a11 0), .int 0])) := (by rw [eu62]; exact (hp_up_ne _ _ (hp_neK f190 f71 (by decide))).trans f190)
      have f192 : g73 q5 = some (.inr (0, [.ref (a11 7), .ref (a11 5), .ref (a11 3), .ref (a11 1), .ref (a11 0), .int 0])) := (by rw [eg73]; exact (hp_up_ne _ _ (hp_neK f191 f72 (by decide))).trans f191)
      have f193 : g76 q5 = some (.inr (0, [.ref (a11 7), .ref (a11 5), .ref (a11 3), .ref (a11 1), .ref (a11 0), .int 0])) := (by rw [eg76]; exact (hp_up_ne _ _ (hp_neN f192 nq75)).trans f192)
      have f194 : g82 q5 = some (.inr (0, [.ref (a11 7), .ref (a11 5), .ref (a11 3), .ref (a11 1), .ref (a11 0), .int 0])) := (by rw [eg82]; exact (hp_up_ne _ _ (hp_neN f193 nk81)).trans f193)
      have f195 : u78 q5 = some (.inr (0, [.ref (a11 7), .ref (a11 5), .ref (a11 3), .ref (a11 1), .ref (a11 0), .int 0])) := (by rw [eu78]; exact (hp_up_ne _ _ (hp_neK f194 f87 (by decide))).trans f194)
      have f196 : g89 q5 = some (.inr (0, [.ref (a11 7), .ref (a11 5), .ref (a11 3), .ref (a11 1), .ref (a11 0), .int 0])) := (by rw [eg89]; exact (hp_up_ne _ _ (hp_neK f195 f88 (by decide))).trans f195)
      have y_gi : hp_extX h gi g89 := by
        intro b e hb hg
        have b_g25 : g25 b = some e := by rw [eg25]; exact (hp_up_ne _ _ (hb)).trans hg
        have b_g28 : g28 b = some e := by rw [eg28]; exact (hp_up_ne _ _ (hp_neN b_g25 nq27)).trans b_g25
        have b_g34 : g34 b = some e := by rw [eg34]; exact (hp_up_ne _ _ (hp_neN b_g28 nk33)).trans b_g28
        have b_u30 : u30 b = some e := by rw [eu30]; exact (hp_up_ne _ _ (hp_neN hg (hp_up_none eg25 (nq27)))).trans b_g34
        have b_g41 : g41 b = some e := by rw [eg41]; exact (hp_up_ne _ _ (hb)).trans b_u30
        have b_g44 : g44 b = some e := by rw [eg44]; exact (hp_up_ne _ _ (hp_neN b_g41 nq43)).trans b_g41
        have b_g50 : g50 b = some e := by rw [eg50]; exact (hp_up_ne _ _ (hp_neN b_g44 nk49)).trans b_g44
        have b_u46 : u46 b = some e := by rw [eu46]; exact (hp_up_ne _ _ (hp_neN hg (hp_up_none eg25 (hp_up_none eg28 (hp_up_none eg34 (hp_up_none eu30 (hp_up_none eg41 (nq43)))))))).trans b_g50
        have b_g57 : g57 b = some e := by rw [eg57]; exact (hp_up_ne _ _ (hb)).trans b_u46
        have b_g60 : g60 b = some e := by rw [eg60]; exact (hp_up_ne _ _ (hp_neN b_g57 nq59)).trans b_g57
        have b_g66 : g66 b = some e := by rw [eg66]; exact (hp_up_ne _ _ (hp_neN b_g60 nk65)).trans b_g60
        have b_u62 : u62 b = some e := by rw [eu62]; exact (hp_up_ne _ _ (hp_neN hg (hp_up_none eg25 (hp_up_none eg28 (hp_up_none eg34 (hp_up_none eu30 (hp_up_none eg41 (hp_up_none eg44 (hp_up_none eg50 (hp_up_none eu46 (hp_up_none eg57 (nq59)))))))))))).trans b_g66
        have b_g73 : g73 b = some e := by rw [eg73]; exact (hp_up_ne _ _ (hb)).trans b_u62
        have b_g76 : g76 b = some e := by rw [eg76]; exact (hp_up_ne _ _ (hp_neN b_g73 nq75)).trans b_g73
        have b_g82 : g82 b = some e := by rw [eg82]; exact (hp_up_ne _ _ (hp_neN b_g76 nk81)).trans b_g76
        have b_u78 : u78 b = some e := by rw [eu78]; exact (hp_up_ne _ _ (hp_neN hg (hp_up_none eg25 (hp_up_none eg28 (hp_up_none eg34 (hp_up_none eu30 (hp_up_none eg41 (hp_up_none eg44 (hp_up_none eg50 (hp_up_none eu46 (hp_up_none eg57 (hp_up_none eg60 (hp_up_none eg66 (hp_up_none eu62 (hp_up_none eg73 (nq75)))))))))))))))).trans b_g82
        have b_g89 : g89 b = some e := by rw [eg89]; exact (hp_up_ne _ _ (hb)).trans b_u78
        exact b_g89
      have z197 : ∀ a, a < 8 → pl_is 9 (K_Strand cA) g89 (P a) := w_gi.keepP (fun m hm => List.mem_append_left _ hm) h2 y_gi
      exact hp_vret cx hw (⟨(fun k => match k with | 0 => k81 | 1 => q75 | 2 => k65 | 3 => q59 | 4 => k49 | 5 => q43 | 6 => k33 | 7 => q27 | 8 => q16 | 9 => (a11 0) | 10 => (a11 1) | 11 => (a11 2) | 12 => (a11 3) | 13 => (a11 4) | 14 => (a11 5) | 15 => (a11 6) | 16 => (a11 7) | 17 => q5 | _ => 0), P, w_g89, f90, f92, f93, f99, f104, f114, f123, f137, f150, f167, z168, z169, z170, z171, z172, z173, z174, z175, f196, z197⟩) dX1_init_123
    | succ j ih =>
      intro i gi H locs ls hij hinv hw hl
      obtain ⟨P, h1, h2, h4⟩ := hinv
      have hlt : i < 8 := by omega
      refine lv_iload_n cx.1 cx.2.1 dX1_init_36 rfl (lv_at hl 0 rfl) ?_
      refine lv_bipush (v := 8) cx.1 cx.2.1 dX1_init_37 (by decide) ?_
      refine lv_icmp_ge (tgt := 61) cx.1 cx.2.1 dX1_init_39 (by decide) (fun c39_198 => ?_) (fun c39_198 => ?_)
      · exact absurd c39_198 (show ¬ nI 8 ≤ nI i from nI_ge hlt (by decide))
      refine lv_aload_n cx.1 cx.2.1 dX1_init_42 rfl (lv_at hl 1 rfl) ?_
      have f199 : gi h = some (.inr (1, [.ref pln, .ref pol, .ref q5, .ref q16, .null, .null, .null, .null, .int 0, .int 0, .int 0, .int 0, .int 0, .int 0, .int 0, .int 0, .int 0, .int 0, .null, .int 0])) := h4.2.2.1 _ _ (hp_neOA f21 f22) f21
      refine hp_get (C := RX1) (T := TX1) (N := 20) (ci := 1) cx hw i_X1_init_X1 rfl f199 3 (by decide) m_X1_init_f28 (v := .ref q16) rfl dX1_init_43 ?_
      refine lv_iload_n cx.1 cx.2.1 dX1_init_46 rfl (lv_at hl 0 rfl) ?_
      refine hp_new (C := RX7) (T := TX7) (N := 18) (ci := 7) (fs := [.null, .null, .null, .null, .null, .null, .null, .int 0, .int 0, .int 0, .int 0, .int 0, .long 0, .int 0, .null, .int 0, .int 0, .int 0]) cx hw i_X1_init_X7 tyX7_ok rfl m_X1_init_k26 m_X1_init_n7 m_X1_init_z7 nwX7 (by (try dsimp only); omega) (by (try dsimp only); omega) dX1_init_47 (fun q200 g201 H nq200 eg201 hw => ?_)
      have f202 : g201 q200 = some (.inr (7, [.null, .null, .null, .null, .null, .null, .null, .int 0, .int 0, .int 0, .int 0, .int 0, .long 0, .int 0, .null, .int 0, .int 0, .int 0])) := (by rw [eg201]; exact hp_up_self _ _ _)
      refine lv_dup cx.1 cx.2.1 dX1_init_50 rfl ?_
      refine hp_callIv (As := []) (rest := [.ref q200, .int (nI i), .ref q16]) cx hw (k_Strand_init l D cA E _ g201 q200 f202) (cwI 0 cx.2.2.2.2.2.1 gX1_init_X7_init rfl rfl rfl (cx.2.2.2.2.2.1 _ m_X1_init_z7) (cx.2.2.2.2.2.1 _ m_X1_init_l32) (cx.2.2.2.2.2.1 _ m_X1_init_j32) rfl (by decide +kernel) ⟨Nat.le_of_ble_eq_true rfl, Nat.le_of_ble_eq_true rfl⟩) rfl hl.1 rfl (Nat.le_of_ble_eq_true rfl) dX1_init_51 ⟨by (try dsimp only); omega, by (try dsimp only); omega⟩ (fun u203 H locs hp205 hw => ?_)
      have hmu203 : pl_made 9 (K_Strand cA) q200 g201 u203 := hp205
      obtain ⟨p206, p2060, p206i, p206n, p206j, p206x⟩ := hp205
      have f207 : u203 q200 = some (.inr (7, [.ref (p206 1), .ref (p206 2), .ref (p206 3), .ref (p206 4), .ref (p206 5), .ref (p206 6), .ref (p206 7), .int 0, .int 0, .int 0, .int 0, .int 0, .long 0, .int 0, .null, .int 0, .int 0, .int 0])) := by rw [← p2060]; exact p206i 0 (by decide)
      have f208 : g201 q16 = some (.inl (cA 5, 8, .inr (.inr (.inr (.inr (pl_row P i)))))) := (by rw [eg201]; exact (hp_up_ne _ _ (hp_neN h1 nq200)).trans h1)
      have f209 : u203 q16 = some (.inl (cA 5, 8, .inr (.inr (.inr (.inr (pl_row P i)))))) := p206x _ _ (hp_neAO f208 f202) f208
      refine hp_aast (r := (RX7, TX7, 18)) cx hw 5 f209 rfl f207 rfl (vp_in_nI hlt (by decide)) dX1_init_54 (fun g210 H locs eg210 hw => ?_)
      have f211 : g210 q16 = some (.inl (cA 5, 8, .inr (.inr (.inr (.inr (va_up (pl_row P i) (nI i).toNatClampNeg (some q200))))))) := (by rw [eg210]; exact hp_up_self _ _ _)
      refine lv_iinc (v := (nI (i + 1))) (lv' := [(3, .int (nI (i + 1))), (0, .ref h), (1, .ref pln), (2, .ref pol)]) cx.1 cx.2.1 dX1_init_55 hl (k := 0) rfl (nI_1 i) (by decide) rfl (fun ls hl => ?_)
      refine lv_goto (tgt := 36) cx.1 cx.2.1 dX1_init_58 (by decide) ?_
      refine W.widen (k := (1 + 8 + 1) + 9 * (i + 1)) (n := (6 + 340 + 8) + 412 * (i + 1)) (by omega) (by omega) ?_
      exact ih (i + 1) g210 H locs ls (by omega) (pl_fil.step h1 h2 h4 nq200 eg201 hmu203 (by rw [nI_clamp (by omega)]) eg210 (by decide)) hw (lv_sub hl [0, 1, 2, 3] rfl)
  refine W.widen (k := (1 + 8 + 1) + 9 * 0) (n := (6 + 340 + 8) + 412 * 0) (by omega) (by omega) ?_
  exact loop 8 0 g20 _ _ _ (by omega) (pl_fil.start f22) hw (lv_sub hl [0, 1, 2, 3] rfl)
