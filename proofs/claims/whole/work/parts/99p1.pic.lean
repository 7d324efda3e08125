set_option maxHeartbeats 4000000 in
set_option maxRecDepth 100000 in
/-- rightsOf(n), whole -/
theorem k2_Policy_rightsOf (l : Launch) (D : va_G) (cA : Nat → ClassId) (E : hp_N) (sz : Nat) (g : hp_M) (hAO : ∀ A U H, E A U H → va_AO "WardenHouse$Right" U) (n : Int32) (N : Nat) (hp : 0 < n) (hN : n = nI N) (hb : N ≤ 4096) : Met l yX3_rightsOf wsX3_rightsOf ({ frames := 2, cells := 1 + 2 * N, slots := N + 9 * N, locals := 40 }) (hp_Pc D vwCl (hp_Tl cA) E sz g [.int n]) (hp_Qr D vwCl (hp_Tl cA) sz g (fun a u => ∃ P : Nat → Nat → Nat, nvv g u (plL 2 P N ++ [a]) ∧ u a = some (.inl (cA 4, N, .inr (.inr (.inr (.inr (pl_row P N)))))) ∧ ∀ i, i < N → pl_is 2 (K_Right cA) u (P i))) (1 + 2 * N) (N + 9 * N) (hp_A g sz) := by
  refine hp_ofW (cc := cX3_rightsOf) (maxL := 3) (ret := (some (.array (.object "WardenHouse$Right")))) (by decide) rfl (Nat.le_of_ble_eq_true rfl) ?_
  intro pp ee ss mm bb mt cd ls cx hsz hw hl
  have hl : lv_has ls 3 [(0, .int n)] := hl
  refine lv_iload_n cx.1 cx.2.1 dX3_rightsOf_0 rfl (lv_at hl 0 rfl) ?_
  refine lv_if_le (tgt := 8) cx.1 cx.2.1 dX3_rightsOf_1 (by decide) (fun c1_1 => ?_) (fun c1_1 => ?_)
  · exact absurd c1_1 (Int32.not_le.mpr hp)
  refine lv_iload_n cx.1 cx.2.1 dX3_rightsOf_4 rfl (lv_at hl 0 rfl) ?_
  refine lv_goto (tgt := 9) cx.1 cx.2.1 dX3_rightsOf_5 (by decide) ?_
  refine hp_newq (N' := N) cx hw m_X3_rightsOf_k45 (hAO _ _ _ hw.2.2.2.2.2) 4 rfl (Int32.not_lt.mpr (Int32.le_of_lt hp)) (by rw [hN]; exact nI_clamp (by omega)) (by omega) (by (try dsimp only); omega) (by (try dsimp only); omega) dX3_rightsOf_9 (fun q2 g3 H nq2 eg3 hw => ?_)
  have f4 : g3 q2 = some (.inl (cA 4, N, .inr (.inr (.inr (.inr (fun _ => none)))))) := (by rw [eg3]; exact hp_up_self _ _ _)
  refine lv_astore_n (lv' := [(1, .ref q2), (0, .int n)]) cx.1 cx.2.1 dX3_rightsOf_12 rfl hl (by decide) rfl (fun ls hl => ?_)
  refine lv_iconst (v := 0) cx.1 cx.2.1 dX3_rightsOf_13 (by decide) ?_
  refine lv_istore_n (lv' := [(2, .int 0), (1, .ref q2), (0, .int n)]) cx.1 cx.2.1 dX3_rightsOf_14 rfl hl (by decide) rfl (fun ls hl => ?_)
  have loop : ∀ (j i : Nat) (gi : hp_M) (H : Heap) (locs : List Loc) (ls : Array Slot), i + j = N → pl_fil 2 4 N (K_Right cA) cA g3 q2 i gi → hp_w D vwCl (hp_Tl cA) E (hp_A g sz) ss H locs gi → lv_has ls 3 [(2, .int (nI i)), (1, .ref q2), (0, .int n)] → W pp l ee ({ frames := 2, cells := 1 + 2 * N, slots := N + 9 * N, locals := 40 }) ss mm [.int n].toArray bb mt cd H locs (1 + 2 * i) (N + 9 * i) (MQ bb (hp_Qr D vwCl (hp_Tl cA) sz g (fun a u => ∃ P : Nat → Nat → Nat, nvv g u (plL 2 P N ++ [a]) ∧ u a = some (.inl (cA 4, N, .inr (.inr (.inr (.inr (pl_row P N)))))) ∧ ∀ i, i < N → pl_is 2 (K_Right cA) u (P i))) [.int n].toArray ss (1 + 2 * N) (N + 9 * N) (hp_A g sz)) (F0 mm 15 ls []) := by
    intro j
    induction j with
    | zero =>
      intro i gi H locs ls hij hinv hw hl
      obtain ⟨P, h1, h2, h4⟩ := hinv
      have hi : i = N := by omega
      rw [hi] at h1 h2 h4
      refine lv_iload_n cx.1 cx.2.1 dX3_rightsOf_15 rfl (lv_at hl 0 rfl) ?_
      refine lv_aload_n cx.1 cx.2.1 dX3_rightsOf_16 rfl (lv_at hl 1 rfl) ?_
      refine hp_alen (v := (nI N)) cx hw 4 h1 rfl rfl dX3_rightsOf_17 ?_
      refine lv_icmp_ge (tgt := 37) cx.1 cx.2.1 dX3_rightsOf_18 (by decide) (fun c18_5 => ?_) (fun c18_5 => ?_)
      rotate_left
      · exact absurd (by rw [hi]; exact Int32.le_refl _) c18_5
      refine W.widen (k := 1 + 2 * N) (n := N + 9 * N) (by omega) (by omega) ?_
      refine lv_aload_n cx.1 cx.2.1 dX3_rightsOf_37 rfl (lv_at hl 1 rfl) ?_
      exact hp_aret cx hw (⟨P, nw.nvv nq2 eg3 h4, h1, h2⟩) (Or.inr ⟨_, rfl⟩) dX3_rightsOf_38
    | succ j ih =>
      intro i gi H locs ls hij hinv hw hl
      obtain ⟨P, h1, h2, h4⟩ := hinv
      have hlt : i < N := by omega
      refine lv_iload_n cx.1 cx.2.1 dX3_rightsOf_15 rfl (lv_at hl 0 rfl) ?_
      refine lv_aload_n cx.1 cx.2.1 dX3_rightsOf_16 rfl (lv_at hl 1 rfl) ?_
      refine hp_alen (v := (nI N)) cx hw 4 h1 rfl rfl dX3_rightsOf_17 ?_
      refine lv_icmp_ge (tgt := 37) cx.1 cx.2.1 dX3_rightsOf_18 (by decide) (fun c18_6 => ?_) (fun c18_6 => ?_)
      · exact absurd c18_6 (nI_ge hlt (by omega))
      refine lv_aload_n cx.1 cx.2.1 dX3_rightsOf_21 rfl (lv_at hl 1 rfl) ?_
      refine lv_iload_n cx.1 cx.2.1 dX3_rightsOf_22 rfl (lv_at hl 0 rfl) ?_
      refine hp_new (C := RX5) (T := TX5) (N := 4) (ci := 5) (fs := [.long 0, .null, .int 0, .int 0]) cx hw i_X3_rightsOf_X5 tyX5_ok rfl m_X3_rightsOf_k45 m_X3_rightsOf_n5 m_X3_rightsOf_z5 nwX5 (by (try dsimp only); omega) (by (try dsimp only); omega) dX3_rightsOf_23 (fun q7 g8 H nq7 eg8 hw => ?_)
      have f9 : g8 q7 = some (.inr (5, [.long 0, .null, .int 0, .int 0])) := (by rw [eg8]; exact hp_up_self _ _ _)
      refine lv_dup cx.1 cx.2.1 dX3_rightsOf_26 rfl ?_
      refine hp_callIv (As := []) (rest := [.ref q7, .int (nI i), .ref q2]) cx hw (k_Right_init l D cA E _ g8 q7 f9) (cwI 0 cx.2.2.2.2.2.1 gX3_rightsOf_X5_init rfl rfl rfl (cx.2.2.2.2.2.1 _ m_X3_rightsOf_z5) (cx.2.2.2.2.2.1 _ m_X3_rightsOf_l47) (cx.2.2.2.2.2.1 _ m_X3_rightsOf_j47) rfl (by decide +kernel) ⟨Nat.le_of_ble_eq_true rfl, Nat.le_of_ble_eq_true rfl⟩) rfl hl.1 rfl (Nat.le_of_ble_eq_true rfl) dX3_rightsOf_27 ⟨by (try dsimp only); omega, by (try dsimp only); omega⟩ (fun u10 H locs hp12 hw => ?_)
      have hmu10 : pl_made 2 (K_Right cA) q7 g8 u10 := hp12
      obtain ⟨p13, p130, p13i, p13n, p13j, p13x⟩ := hp12
      have f14 : u10 q7 = some (.inr (5, [.long 0, .ref (p13 1), .int 0, .int 0])) := by rw [← p130]; exact p13i 0 (by decide)
      have f15 : g8 q2 = some (.inl (cA 4, N, .inr (.inr (.inr (.inr (pl_row P i)))))) := (by rw [eg8]; exact (hp_up_ne _ _ (hp_neN h1 nq7)).trans h1)
      have f16 : u10 q2 = some (.inl (cA 4, N, .inr (.inr (.inr (.inr (pl_row P i)))))) := p13x _ _ (hp_neAO f15 f9) f15
      refine hp_aast (r := (RX5, TX5, 4)) cx hw 4 f16 rfl f14 rfl (vp_in_nI hlt (by omega)) dX3_rightsOf_30 (fun g17 H locs eg17 hw => ?_)
      have f18 : g17 q2 = some (.inl (cA 4, N, .inr (.inr (.inr (.inr (va_up (pl_row P i) (nI i).toNatClampNeg (some q7))))))) := (by rw [eg17]; exact hp_up_self _ _ _)
      refine lv_iinc (v := (nI (i + 1))) (lv' := [(2, .int (nI (i + 1))), (1, .ref q2), (0, .int n)]) cx.1 cx.2.1 dX3_rightsOf_31 hl (k := 0) rfl (nI_1 i) (by decide) rfl (fun ls hl => ?_)
      refine lv_goto (tgt := 15) cx.1 cx.2.1 dX3_rightsOf_34 (by decide) ?_
      refine W.widen (k := 1 + 2 * (i + 1)) (n := N + 9 * (i + 1)) (by omega) (by omega) ?_
      exact ih (i + 1) g17 H locs ls (by omega) (pl_fil.step h1 h2 h4 nq7 eg8 hmu10 (by rw [nI_clamp (by omega)]) eg17 (by decide)) hw (lv_sub hl [0, 1, 2] rfl)
  refine W.widen (k := 1 + 2 * 0) (n := N + 9 * 0) (by omega) (by omega) ?_
  exact loop N 0 g3 _ _ _ (by omega) (pl_fil.start f4) hw (lv_sub hl [0, 1, 2] rfl)

set_option maxHeartbeats 4000000 in
set_option maxRecDepth 100000 in
/-- Contexts(), whole -/
theorem k2_Contexts_init (l : Launch) (D : va_G) (cA : Nat → ClassId) (E : hp_N) (sz : Nat) (g : hp_M)  (h : Nat) (hh : g h = some (.inr (0, [.null, .null, .null, .null, .null, .int 0]))) : Met l yX0_init wsX0_init ({ frames := 2, cells := 8, slots := 340, locals := 40 }) (hp_Pc D vwCl (hp_Tl cA) E sz g [.ref h]) (hp_Qv D vwCl (hp_Tl cA) sz g (fun u => ∃ (a : Nat → Nat), nw h g u ((a 0) :: ((a 1) :: ((a 2) :: ((a 3) :: ((a 4) :: ((a 5) :: ((a 6) :: ((a 7) :: [])))))))) ∧ u h = some (.inr (0, [.ref (a 7), .ref (a 5), .ref (a 3), .ref (a 1), .ref (a 0), .int 0])) ∧ u (a 0) = some (.inl (cA 1, 14, .inl (fun _ => 0))) ∧ u (a 1) = some (.inl (cA 1, 256, .inl (fun _ => 0))) ∧ u (a 2) = some (.inl (cA 2, 16, .inr (.inl (fun _ => 0)))) ∧ u (a 3) = some (.inr (6, [.ref (a 2), .int 0])) ∧ u (a 4) = some (.inl (cA 2, 32, .inr (.inl (fun _ => 0)))) ∧ u (a 5) = some (.inr (6, [.ref (a 4), .int 0])) ∧ u (a 6) = some (.inl (cA 2, 16, .inr (.inl (fun _ => 0)))) ∧ u (a 7) = some (.inr (6, [.ref (a 6), .int 0])))) 8 340 (hp_A g sz) := by
  refine hp_ofW (cc := cX0_init) (maxL := 1) (ret := none) (by decide) rfl (Nat.le_of_ble_eq_true rfl) ?_
  intro pp ee ss mm bb mt cd ls cx hsz hw hl
  have hl : lv_has ls 1 [(0, .ref h)] := hl
  have w_g : nw h g g [] := nw.rf (by rw [hh]; exact fun r => nomatch r)
  refine lv_aload_n cx.1 cx.2.1 dX0_init_0 rfl (lv_at hl 0 rfl) ?_
  refine W.objInit cx.1 cx.2.1 cx.2.2.2.2.1 (cx.2.2.2.2.2.1 _ m_X0_init_oi) (cx.2.2.2.2.2.1 _ m_X0_init_oj) (cx.2.2.2.2.2.1 _ m_X0_init_ok) rfl (by rw [cx.2.2.2.1]; exact hl.1) rfl dX0_init_1 (Nat.le_of_ble_eq_true rfl) (Nat.le_of_ble_eq_true rfl) ?_
  refine W.eq (g2 := F0 mm 4 ls []) rfl ?_
  refine lv_aload_n cx.1 cx.2.1 dX0_init_4 rfl (lv_at hl 0 rfl) ?_
  refine hp_new (C := RX6) (T := TX6) (N := 2) (ci := 6) (fs := [.null, .int 0]) cx hw i_X0_init_X6 tyX6_ok rfl m_X0_init_k9 m_X0_init_n6 m_X0_init_z6 nwX6 (by exact Nat.le_of_ble_eq_true rfl) (by exact Nat.le_of_ble_eq_true rfl) dX0_init_5 (fun q1 g2 H nq1 eg2 hw => ?_)
  have f3 : g2 q1 = some (.inr (6, [.null, .int 0])) := (by rw [eg2]; exact hp_up_self _ _ _)
  have w_g2 : nw h g g2 (q1 :: []) := w_g.new nq1 eg2
  refine lv_dup cx.1 cx.2.1 dX0_init_8 rfl ?_
  refine lv_bipush (v := 16) cx.1 cx.2.1 dX0_init_9 (by decide) ?_
  refine hp_callIv (As := [.int 16]) (rest := [.ref q1, .ref h]) cx hw (k_Row_init l D cA E _ g2 q1 0 16 16 f3 (by decide) (by decide) (by decide)) (cwI 1 cx.2.2.2.2.2.1 gX0_init_X6_init rfl rfl rfl (cx.2.2.2.2.2.1 _ m_X0_init_z6) (cx.2.2.2.2.2.1 _ m_X0_init_l11) (cx.2.2.2.2.2.1 _ m_X0_init_j11) rfl (by decide +kernel) ⟨Nat.le_of_ble_eq_true rfl, Nat.le_of_ble_eq_true rfl⟩) rfl hl.1 rfl (Nat.le_of_ble_eq_true rfl) dX0_init_11 ⟨Nat.le_of_ble_eq_true rfl, Nat.le_of_ble_eq_true rfl⟩ (fun u4 H locs hp6 hw => ?_)
  obtain ⟨k7, g8, nk7, eg8, eu4⟩ := hp6
  have f9 : g8 k7 = some (.inl (cA 2, 16, .inr (.inl (fun _ => 0)))) := (by rw [eg8]; exact hp_up_self _ _ _)
  have w_g8 : nw h g g8 (k7 :: (q1 :: [])) := w_g2.new nk7 eg8
  have f10 : u4 q1 = some (.inr (6, [.ref k7, .int 0])) := (by rw [eu4]; exact hp_up_self _ _ _)
  have w_u4 : nw h g u4 (k7 :: (q1 :: [])) := w_g8.put (Or.inr (List.mem_cons_of_mem _ (List.mem_cons_self))) eu4
  have f11 : g2 h = some (.inr (0, [.null, .null, .null, .null, .null, .int 0])) := (by rw [eg2]; exact (hp_up_ne _ _ (hp_neN hh nq1)).trans hh)
  have f12 : g8 h = some (.inr (0, [.null, .null, .null, .null, .null, .int 0])) := (by rw [eg8]; exact (hp_up_ne _ _ (hp_neN f11 nk7)).trans f11)
  have f13 : g8 q1 = some (.inr (6, [.null, .int 0])) := (by rw [eg8]; exact (hp_up_ne _ _ (hp_neN f3 nk7)).trans f3)
  have f14 : u4 h = some (.inr (0, [.null, .null, .null, .null, .null, .int 0])) := (by rw [eu4]; exact (hp_up_ne _ _ (hp_neK f12 f13 (by decide))).trans f12)
  refine hp_putF (C := RX0) (T := TX0) (N := 6) (ci := 0) (fs' := [.ref q1, .null, .null, .null, .null, .int 0]) cx hw i_X0_init_X0 tyX0_ok nmX0 rfl f14 0 (by decide) m_X0_init_f14 rfl rfl rfl rfl rfl (Nat.le_of_ble_eq_true rfl) rfl dX0_init_14 (fun g15 H locs eg15 hw => ?_)
  have f16 : g15 h = some (.inr (0, [.ref q1, .null, .null, .null, .null, .int 0])) := (by rw [eg15]; exact hp_up_self _ _ _)
  have w_g15 : nw h g g15 (k7 :: (q1 :: [])) := w_u4.put (Or.inl rfl) eg15
  refine lv_aload_n cx.1 cx.2.1 dX0_init_17 rfl (lv_at hl 0 rfl) ?_
  refine hp_new (C := RX6) (T := TX6) (N := 2) (ci := 6) (fs := [.null, .int 0]) cx hw i_X0_init_X6 tyX6_ok rfl m_X0_init_k9 m_X0_init_n6 m_X0_init_z6 nwX6 (by exact Nat.le_of_ble_eq_true rfl) (by exact Nat.le_of_ble_eq_true rfl) dX0_init_18 (fun q17 g18 H nq17 eg18 hw => ?_)
  have f19 : g18 q17 = some (.inr (6, [.null, .int 0])) := (by rw [eg18]; exact hp_up_self _ _ _)
  have w_g18 : nw h g g18 (q17 :: (k7 :: (q1 :: []))) := w_g15.new nq17 eg18
  refine lv_dup cx.1 cx.2.1 dX0_init_21 rfl ?_
  refine lv_bipush (v := 32) cx.1 cx.2.1 dX0_init_22 (by decide) ?_
  refine hp_callIv (As := [.int 32]) (rest := [.ref q17, .ref h]) cx hw (k_Row_init l D cA E _ g18 q17 0 32 32 f19 (by decide) (by decide) (by decide)) (cwI 1 cx.2.2.2.2.2.1 gX0_init_X6_init rfl rfl rfl (cx.2.2.2.2.2.1 _ m_X0_init_z6) (cx.2.2.2.2.2.1 _ m_X0_init_l11) (cx.2.2.2.2.2.1 _ m_X0_init_j11) rfl (by decide +kernel) ⟨Nat.le_of_ble_eq_true rfl, Nat.le_of_ble_eq_true rfl⟩) rfl hl.1 rfl (Nat.le_of_ble_eq_true rfl) dX0_init_24 ⟨Nat.le_of_ble_eq_true rfl, Nat.le_of_ble_eq_true rfl⟩ (fun u20 H locs hp22 hw => ?_)
  obtain ⟨k23, g24, nk23, eg24, eu20⟩ := hp22
  have f25 : g24 k23 = some (.inl (cA 2, 32, .inr (.inl (fun _ => 0)))) := (by rw [eg24]; exact hp_up_self _ _ _)
  have w_g24 : nw h g g24 (k23 :: (q17 :: (k7 :: (q1 :: [])))) := w_g18.new nk23 eg24
  have f26 : u20 q17 = some (.inr (6, [.ref k23, .int 0])) := (by rw [eu20]; exact hp_up_self _ _ _)
  have w_u20 : nw h g u20 (k23 :: (q17 :: (k7 :: (q1 :: [])))) := w_g24.put (Or.inr (List.mem_cons_of_mem _ (List.mem_cons_self))) eu20
  have f27 : g18 h = some (.inr (0, [.ref q1, .null, .null, .null, .null, .int 0])) := (by rw [eg18]; exact (hp_up_ne _ _ (hp_neN f16 nq17)).trans f16)
  have f28 : g24 h = some (.inr (0, [.ref q1, .null, .null, .null, .null, .int 0])) := (by rw [eg24]; exact (hp_up_ne _ _ (hp_neN f27 nk23)).trans f27)
  have f29 : g24 q17 = some (.inr (6, [.null, .int 0])) := (by rw [eg24]; exact (hp_up_ne _ _ (hp_neN f19 nk23)).trans f19)
  have f30 : u20 h = some (.inr (0, [.ref q1, .null, .null, .null, .null, .int 0])) := (by rw [eu20]; exact (hp_up_ne _ _ (hp_neK f28 f29 (by decide))).trans f28)
  refine hp_putF (C := RX0) (T := TX0) (N := 6) (ci := 0) (fs' := [.ref q1, .ref q17, .null, .null, .null, .int 0]) cx hw i_X0_init_X0 tyX0_ok nmX0 rfl f30 1 (by decide) m_X0_init_f20 rfl rfl rfl rfl rfl (Nat.le_of_ble_eq_true rfl) rfl dX0_init_27 (fun g31 H locs eg31 hw => ?_)
  have f32 : g31 h = some (.inr (0, [.ref q1, .ref q17, .null, .null, .null, .int 0])) := (by rw [eg31]; exact hp_up_self _ _ _)
  have w_g31 : nw h g g31 (k23 :: (q17 :: (k7 :: (q1 :: [])))) := w_u20.put (Or.inl rfl) eg31
  refine lv_aload_n cx.1 cx.2.1 dX0_init_30 rfl (lv_at hl 0 rfl) ?_
  refine hp_new (C := RX6) (T := TX6) (N := 2) (ci := 6) (fs := [.null, .int 0]) cx hw i_X0_init_X6 tyX6_ok rfl m_X0_init_k9 m_X0_init_n6 m_X0_init_z6 nwX6 (by exact Nat.le_of_ble_eq_true rfl) (by exact Nat.le_of_ble_eq_true rfl) dX0_init_31 (fun q33 g34 H nq33 eg34 hw => ?_)
  have f35 : g34 q33 = some (.inr (6, [.null, .int 0])) := (by rw [eg34]; exact hp_up_self _ _ _)
  have w_g34 : nw h g g34 (q33 :: (k23 :: (q17 :: (k7 :: (q1 :: []))))) := w_g31.new nq33 eg34
  refine lv_dup cx.1 cx.2.1 dX0_init_34 rfl ?_
  refine lv_bipush (v := 16) cx.1 cx.2.1 dX0_init_35 (by decide) ?_
  refine hp_callIv (As := [.int 16]) (rest := [.ref q33, .ref h]) cx hw (k_Row_init l D cA E _ g34 q33 0 16 16 f35 (by decide) (by decide) (by decide)) (cwI 1 cx.2.2.2.2.2.1 gX0_init_X6_init rfl rfl rfl (cx.2.2.2.2.2.1 _ m_X0_init_z6) (cx.2.2.2.2.2.1 _ m_X0_init_l11) (cx.2.2.2.2.2.1 _ m_X0_init_j11) rfl (by decide +kernel) ⟨Nat.le_of_ble_eq_true rfl, Nat.le_of_ble_eq_true rfl⟩) rfl hl.1 rfl (Nat.le_of_ble_eq_true rfl) dX0_init_37 ⟨Nat.le_of_ble_eq_true rfl, Nat.le_of_ble_eq_true rfl⟩ (fun u36 H locs hp38 hw => ?_)
  obtain ⟨k39, g40, nk39, eg40, eu36⟩ := hp38
  have f41 : g40 k39 = some (.inl (cA 2, 16, .inr (.inl (fun _ => 0)))) := (by rw [eg40]; exact hp_up_self _ _ _)
  have w_g40 : nw h g g40 (k39 :: (q33 :: (k23 :: (q17 :: (k7 :: (q1 :: [])))))) := w_g34.new nk39 eg40
  have f42 : u36 q33 = some (.inr (6, [.ref k39, .int 0])) := (by rw [eu36]; exact hp_up_self _ _ _)
  have w_u36 : nw h g u36 (k39 :: (q33 :: (k23 :: (q17 :: (k7 :: (q1 :: [])))))) := w_g40.put (Or.inr (List.mem_cons_of_mem _ (List.mem_cons_self))) eu36
  have f43 : g34 h = some (.inr (0, [.ref q1, .ref q17, .null, .null, .null, .int 0])) := (by rw [eg34]; exact (hp_up_ne _ _ (hp_neN f32 nq33)).trans f32)
  have f44 : g40 h = some (.inr (0, [.ref q1, .ref q17, .null, .null, .null, .int 0])) := (by rw [eg40]; exact (hp_up_ne _ _ (hp_neN f43 nk39)).trans f43)
  have f45 : g40 q33 = some (.inr (6, [.null, .int 0])) := (by rw [eg40]; exact (hp_up_ne _ _ (hp_neN f35 nk39)).trans f35)
  have f46 : u36 h = some (.inr (0, [.ref q1, .ref q17, .null, .null, .null, .int 0])) := (by rw [eu36]; exact (hp_up_ne _ _ (hp_neK f44 f45 (by decide))).trans f44)
  refine hp_putF (C := RX0) (T := TX0) (N := 6) (ci := 0) (fs' := [.ref q1, .ref q17, .ref q33, .null, .null, .int 0]) cx hw i_X0_init_X0 tyX0_ok nmX0 rfl f46 2 (by decide) m_X0_init_f23 rfl rfl rfl rfl rfl (Nat.le_of_ble_eq_true rfl) rfl dX0_init_40 (fun g47 H locs eg47 hw => ?_)
  have f48 : g47 h = some (.inr (0, [.ref q1, .ref q17, .ref q33, .null, .null, .int 0])) := (by rw [eg47]; exact hp_up_self _ _ _)
  have w_g47 : nw h g g47 (k39 :: (q33 :: (k23 :: (q17 :: (k7 :: (q1 :: [])))))) := w_u36.put (Or.inl rfl) eg47
  refine lv_aload_n cx.1 cx.2.1 dX0_init_43 rfl (lv_at hl 0 rfl) ?_
  refine lv_sipush (v := 256) cx.1 cx.2.1 dX0_init_44 (by decide) ?_
  refine hp_newa (atype := .int) (N' := 256) (a0 := (256, .inl (fun _ => 0))) cx hw m_X0_init_a1 1 (ty := .int) rfl rfl (fun _ => rfl) (by decide) (by decide) (by decide) (by exact Nat.le_of_ble_eq_true rfl) (by exact Nat.le_of_ble_eq_true rfl) dX0_init_47 (fun q49 g50 H nq49 eg50 hw => ?_)
  have f51 : g50 q49 = some (.inl (cA 1, 256, .inl (fun _ => 0))) := (by rw [eg50]; exact hp_up_self _ _ _)
  have w_g50 : nw h g g50 (q49 :: (k39 :: (q33 :: (k23 :: (q17 :: (k7 :: (q1 :: []))))))) := w_g47.new nq49 eg50
  have f52 : g50 h = some (.inr (0, [.ref q1, .ref q17, .ref q33, .null, .null, .int 0])) := (by rw [eg50]; exact (hp_up_ne _ _ (hp_neN f48 nq49)).trans f48)
  refine hp_putF (C := RX0) (T := TX0) (N := 6) (ci := 0) (fs' := [.ref q1, .ref q17, .ref q33, .ref q49, .null, .int 0]) cx hw i_X0_init_X0 tyX0_ok nmX0 rfl f52 3 (by decide) m_X0_init_f26 rfl rfl rfl rfl rfl (Nat.le_of_ble_eq_true rfl) rfl dX0_init_49 (fun g53 H locs eg53 hw => ?_)
  have f54 : g53 h = some (.inr (0, [.ref q1, .ref q17, .ref q33, .ref q49, .null, .int 0])) := (by rw [eg53]; exact hp_up_self _ _ _)
  have w_g53 : nw h g g53 (q49 :: (k39 :: (q33 :: (k23 :: (q17 :: (k7 :: (q1 :: []))))))) := w_g50.put (Or.inl rfl) eg53
  refine lv_aload_n cx.1 cx.2.1 dX0_init_52 rfl (lv_at hl 0 rfl) ?_
  refine lv_bipush (v := 14) cx.1 cx.2.1 dX0_init_53 (by decide) ?_
  refine hp_newa (atype := .int) (N' := 14) (a0 := (14, .inl (fun _ => 0))) cx hw m_X0_init_a1 1 (ty := .int) rfl rfl (fun _ => rfl) (by decide) (by decide) (by decide) (by exact Nat.le_of_ble_eq_true rfl) (by exact Nat.le_of_ble_eq_true rfl) dX0_init_55 (fun q55 g56 H nq55 eg56 hw => ?_)
  have f57 : g56 q55 = some (.inl (cA 1, 14, .inl (fun _ => 0))) := (by rw [eg56]; exact hp_up_self _ _ _)
  have w_g56 : nw h g g56 (q55 :: (q49 :: (k39 :: (q33 :: (k23 :: (q17 :: (k7 :: (q1 :: [])))))))) := w_g53.new nq55 eg56
  have f58 : g56 h = some (.inr (0, [.ref q1, .ref q17, .ref q33, .ref q49, .null, .int 0])) := (by rw [eg56]; exact (hp_up_ne _ _ (hp_neN f54 nq55)).trans f54)
  refine hp_putF (C := RX0) (T := TX0) (N := 6) (ci := 0) (fs' := [.ref q1, .ref q17, .ref q33, .ref q49, .ref q55, .int 0]) cx hw i_X0_init_X0 tyX0_ok nmX0 rfl f58 4 (by decide) m_X0_init_f30 rfl rfl rfl rfl rfl (Nat.le_of_ble_eq_true rfl) rfl dX0_init_57 (fun g59 H locs eg59 hw => ?_)
  have f60 : g59 h = some (.inr (0, [.ref q1, .ref q17, .ref q33, .ref q49, .ref q55, .int 0])) := (by rw [eg59]; exact hp_up_self _ _ _)
  have w_g59 : nw h g g59 (q55 :: (q49 :: (k39 :: (q33 :: (k23 :: (q17 :: (k7 :: (q1 :: [])))))))) := w_g56.put (Or.inl rfl) eg59
  have f61 : g59 q55 = some (.inl (cA 1, 14, .inl (fun _ => 0))) := (by rw [eg59]; exact (hp_up_ne _ _ (hp_neAO f57 f58)).trans f57)
  have f62 : g53 q49 = some (.inl (cA 1, 256, .inl (fun _ => 0))) := (by rw [eg53]; exact (hp_up_ne _ _ (hp_neAO f51 f52)).trans f51)
  have f63 : g56 q49 = some (.inl (cA 1, 256, .inl (fun _ => 0))) := (by rw [eg56]; exact (hp_up_ne _ _ (hp_neN f62 nq55)).trans f62)
  have f64 : g59 q49 = some (.inl (cA 1, 256, .inl (fun _ => 0))) := (by rw [eg59]; exact (hp_up_ne _ _ (hp_neAO f63 f58)).trans f63)
  have f65 : u36 k39 = some (.inl (cA 2, 16, .inr (.inl (fun _ => 0)))) := (by rw [eu36]; exact (hp_up_ne _ _ (hp_neAO f41 f45)).trans f41)
  have f66 : g47 k39 = some (.inl (cA 2, 16, .inr (.inl (fun _ => 0)))) := (by rw [eg47]; exact (hp_up_ne _ _ (hp_neAO f65 f46)).trans f65)
  have f67 : g50 k39 = some (.inl (cA 2, 16, .inr (.inl (fun _ => 0)))) := (by rw [eg50]; exact (hp_up_ne _ _ (hp_neN f66 nq49)).trans f66)
  have f68 : g53 k39 = some (.inl (cA 2, 16, .inr (.inl (fun _ => 0)))) := (by rw [eg53]; exact (hp_up_ne _ _ (hp_neAO f67 f52)).trans f67)
  have f69 : g56 k39 = some (.inl (cA 2, 16, .inr (.inl (fun _ => 0)))) := (by rw [eg56]; exact (hp_up_ne _ _ (hp_neN f68 nq55)).trans f68)
  have f70 : g59 k39 = some (.inl (cA 2, 16, .inr (.inl (fun _ => 0)))) := (by rw [eg59]; exact (hp_up_ne _ _ (hp_neAO f69 f58)).trans f69)
  have f71 : g47 q33 = some (.inr (6, [.ref k39, .int 0])) := (by rw [eg47]; exact (hp_up_ne _ _ (hp_neK f42 f46 (by decide))).trans f42)
  have f72 : g50 q33 = some (.inr (6, [.ref k39, .int 0])) := (by rw [eg50]; exact (hp_up_ne _ _ (hp_neN f71 nq49)).trans f71)
  have f73 : g53 q33 = some (.inr (6, [.ref k39, .int 0])) := (by rw [eg53]; exact (hp_up_ne _ _ (hp_neK f72 f52 (by decide))).trans f72)
  have f74 : g56 q33 = some (.inr (6, [.ref k39, .int 0])) := (by rw [eg56]; exact (hp_up_ne _ _ (hp_neN f73 nq55)).trans f73)
  have f75 : g59 q33 = some (.inr (6, [.ref k39, .int 0])) := (by rw [eg59]; exact (hp_up_ne _ _ (hp_neK f74 f58 (by decide))).trans f74)
  have f76 : u20 k23 = some (.inl (cA 2, 32, .inr (.inl (fun _ => 0)))) := (by rw [eu20]; exact (hp_up_ne _ _ (hp_neAO f25 f29)).trans f25)
  have f77 : g31 k23 = some (.inl (cA 2, 32, .inr (.inl (fun _ => 0)))) := (by rw [eg31]; exact (hp_up_ne _ _ (hp_neAO f76 f30)).trans f76)
  have f78 : g34 k23 = some (.inl (cA 2, 32, .inr (.inl (fun _ => 0)))) := (by rw [eg34]; exact (hp_up_ne _ _ (hp_neN f77 nq33)).trans f77)
  have f79 : g40 k23 = some (.inl (cA 2, 32, .inr (.inl (fun _ => 0)))) := (by rw [eg40]; exact (hp_up_ne _ _ (hp_neN f78 nk39)).trans f78)
  have f80 : u36 k23 = some (.inl (cA 2, 32, .inr (.inl (fun _ => 0)))) := (by rw [eu36]; exact (hp_up_ne _ _ (hp_neAO f79 f45)).trans f79)
  have f81 : g47 k23 = some (.inl (cA 2, 32, .inr (.inl (fun _ => 0)))) := (by rw [eg47]; exact (hp_up_ne _ _ (hp_neAO f80 f46)).trans f80)
  have f82 : g50 k23 = some (.inl (cA 2, 32, .inr (.inl (fun _ => 0)))) := (by rw [eg50]; exact (hp_up_ne _ _ (hp_neN f81 nq49)).trans f81)
  have f83 : g53 k23 = some (.inl (cA 2, 32, .inr (.inl (fun _ => 0)))) := (by rw [eg53]; exact (hp_up_ne _ _ (hp_neAO f82 f52)).trans f82)
  have f84 : g56 k23 = some (.inl (cA 2, 32, .inr (.inl (fun _ => 0)))) := (by rw [eg56]; exact (hp_up_ne _ _ (hp_neN f83 nq55)).trans f83)
  have f85 : g59 k23 = some (.inl (cA 2, 32, .inr (.inl (fun _ => 0)))) := (by rw [eg59]; exact (hp_up_ne _ _ (hp_neAO f84 f58)).trans f84)
  have f86 : g31 q17 = some (.inr (6, [.ref k23, .int 0])) := (by rw [eg31]; exact (hp_up_ne _ _ (hp_neK f26 f30 (by decide))).trans f26)
  have f87 : g34 q17 = some (.inr (6, [.ref k23, .int 0])) := (by rw [eg34]; exact (hp_up_ne _ _ (hp_neN f86 nq33)).trans f86)
  have f88 : g40 q17 = some (.inr (6, [.ref k23, .int 0])) := (by rw [eg40]; exact (hp_up_ne _ _ (hp_neN f87 nk39)).trans f87)
  have f89 : u36 q17 = some (.inr (6, [.ref k23, .int 0])) := (by rw [eu36]; exact (hp_up_ne _ _ (hp_neN f86 nq33)).trans f88)
  have f90 : g47 q17 = some (.inr (6, [.ref k23, .int 0])) := (by rw [eg47]; exact (hp_up_ne _ _ (hp_neK f89 f46 (by decide))).trans f89)
  have f91 : g50 q17 = some (.inr (6, [.ref k23, .int 0])) := (by rw [eg50]; exact (hp_up_ne _ _ (hp_neN f90 nq49)).trans f90)
  have f92 : g53 q17 = some (.inr (6, [.ref k23, .int 0])) := (by rw [eg53]; exact (hp_up_ne _ _ (hp_neK f91 f52 (by decide))).trans f91)
  have f93 : g56 q17 = some (.inr (6, [.ref k23, .int 0])) := (by rw [eg56]; exact (hp_up_ne _ _ (hp_neN f92 nq55)).trans f92)
  have f94 : g59 q17 = some (.inr (6, [.ref k23, .int 0])) := (by rw [eg59]; exact (hp_up_ne _ _ (hp_neK f93 f58 (by decide))).trans f93)
  have f95 : u4 k7 = some (.inl (cA 2, 16, .inr (.inl (fun _ => 0)))) := (by rw [eu4]; exact (hp_up_ne _ _ (hp_neAO f9 f13)).trans f9)
  have f96 : g15 k7 = some (.inl (cA 2, 16, .inr (.inl (fun _ => 0)))) := (by rw [eg15]; exact (hp_up_ne _ _ (hp_neAO f95 f14)).trans f95)
  have f97 : g18 k7 = some (.inl (cA 2, 16, .inr (.inl (fun _ => 0)))) := (by rw [eg18]; exact (hp_up_ne _ _ (hp_neN f96 nq17)).trans f96)
  have f98 : g24 k7 = some (.inl (cA 2, 16, .inr (.inl (fun _ => 0)))) := (by rw [eg24]; exact (hp_up_ne _ _ (hp_neN f97 nk23)).trans f97)
  have f99 : u20 k7 = some (.inl (cA 2, 16, .inr (.inl (fun _ => 0)))) := (by rw [eu20]; exact (hp_up_ne _ _ (hp_neAO f98 f29)).trans f98)
  have f100 : g31 k7 = some (.inl (cA 2, 16, .inr (.inl (fun _ => 0)))) := (by rw [eg31]; exact (hp_up_ne _ _ (hp_neAO f99 f30)).trans f99)
  have f101 : g34 k7 = some (.inl (cA 2, 16, .inr (.inl (fun _ => 0)))) := (by rw [eg34]; exact (hp_up_ne _ _ (hp_neN f100 nq33)).trans f100)
  have f102 : g40 k7 = some (.inl (cA 2, 16, .inr (.inl (fun _ => 0)))) := (by rw [eg40]; exact (hp_up_ne _ _ (hp_neN f101 nk39)).trans f101)
  have f103 : u36 k7 = some (.inl (cA 2, 16, .inr (.inl (fun _ => 0)))) := (by rw [eu36]; exact (hp_up_ne _ _ (hp_neAO f102 f45)).trans f102)
  have f104 : g47 k7 = some (.inl (cA 2, 16, .inr (.inl (fun _ => 0)))) := (by rw [eg47]; exact (hp_up_ne _ _ (hp_neAO f103 f46)).trans f103)
  have f105 : g50 k7 = some (.inl (cA 2, 16, .inr (.inl (fun _ => 0)))) := (by rw [eg50]; exact (hp_up_ne _ _ (hp_neN f104 nq49)).trans f104)
  have f106 : g53 k7 = some (.inl (cA 2, 16, .inr (.inl (fun _ => 0)))) := (by rw [eg53]; exact (hp_up_ne _ _ (hp_neAO f105 f52)).trans f105)
  have f107 : g56 k7 = some (.inl (cA 2, 16, .inr (.inl (fun _ => 0)))) := (by rw [eg56]; exact (hp_up_ne _ _ (hp_neN f106 nq55)).trans f106)
  have f108 : g59 k7 = some (.inl (cA 2, 16, .inr (.inl (fun _ => 0)))) := (by rw [eg59]; exact (hp_up_ne _ _ (hp_neAO f107 f58)).trans f107)
  have f109 : g15 q1 = some (.inr (6, [.ref k7, .int 0])) := (by rw [eg15]; exact (hp_up_ne _ _ (hp_neK f10 f14 (by decide))).trans f10)
  have f110 : g18 q1 = some (.inr (6, [.ref k7, .int 0])) := (by rw [eg18]; exact (hp_up_ne _ _ (hp_neN f109 nq17)).trans f109)
  have f111 : g24 q1 = some (.inr (6, [.ref k7, .int 0])) := (by rw [eg24]; exact (hp_up_ne _ _ (hp_neN f110 nk23)).trans f110)
  have f112 : u20 q1 = some (.inr (6, [.ref k7, .int 0])) := (by rw [eu20]; exact (hp_up_ne _ _ (hp_neN f109 nq17)).trans f111)
  have f113 : g31 q1 = some (.inr (6, [.ref k7, .int 0])) := (by rw [eg31]; exact (hp_up_ne _ _ (hp_neK f112 f30 (by decide))).trans f112)
  have f114 : g34 q1 = some (.inr (6, [.ref k7, .int 0])) := (by rw [eg34]; exact (hp_up_ne _ _ (hp_neN f113 nq33)).trans f113)
  have f115 : g40 q1 = some (.inr (6, [.ref k7, .int 0])) := (by rw [eg40]; exact (hp_up_ne _ _ (hp_neN f114 nk39)).trans f114)
  have f116 : u36 q1 = some (.inr (6, [.ref k7, .int 0])) := (by rw [eu36]; exact (hp_up_ne _ _ (hp_neN f113 nq33)).trans f115)
  have f117 : g47 q1 = some (.inr (6, [.ref k7, .int 0])) := (by rw [eg47]; exact (hp_up_ne _ _ (hp_neK f116 f46 (by decide))).trans f116)
  have f118 : g50 q1 = some (.inr (6, [.ref k7, .int 0])) := (by rw [eg50]; exact (hp_up_ne _ _ (hp_neN f117 nq49)).trans f117)
  have f119 : g53 q1 = some (.inr (6, [.ref k7, .int 0])) := (by rw [eg53]; exact (hp_up_ne _ _ (hp_neK f118 f52 (by decide))).trans f118)
  have f120 : g56 q1 = some (.inr (6, [.ref k7, .int 0])) := (by rw [eg56]; exact (hp_up_ne _ _ (hp_neN f119 nq55)).trans f119)
  have f121 : g59 q1 = some (.inr (6, [.ref k7, .int 0])) := (by rw [eg59]; exact (hp_up_ne _ _ (hp_neK f120 f58 (by decide))).trans f120)
  exact hp_vret cx hw (⟨(fun k => match k with | 0 => q55 | 1 => q49 | 2 => k39 | 3 => q33 | 4 => k23 | 5 => q17 | 6 => k7 | 7 => q1 | _ => 0), w_g59, f60, f61, f64, f70, f75, f85, f94, f108, f121⟩) dX0_init_60

set_option maxHeartbeats 4000000 in
set_option maxRecDepth 100000 in
/-- Policy(), whole -/
theorem k2_Policy_init (l : Launch) (D : va_G) (cA : Nat → ClassId) (E : hp_N) (sz : Nat) (g : hp_M) (hAO : ∀ A U H, E A U H → va_AO "WardenHouse$Right" U) (h : Nat) (hh : g h = some (.inr (3, [.null, .null, .null, .null, .null, .null, .null, .null, .null, .null, .int 0, .int 0, .int 0, .int 0]))) : Met l yX3_init wsX3_init ({ frames := 4, cells := 395, slots := 2013, locals := 120 }) (hp_Pc D vwCl (hp_Tl cA) E sz g [.ref h]) (hp_Qv D vwCl (hp_Tl cA) sz g (fun u => ∃ (a : Nat → Nat) (P0 : Nat → Nat → Nat) (P1 : Nat → Nat → Nat) (P2 : Nat → Nat → Nat), nw h g u (((a 0) :: []) ++ ((a 1) :: ((a 2) :: ((a 3) :: ((plL 2 P2 24 ++ ((a 4) :: [])) ++ ((a 5) :: ((a 6) :: ((a 7) :: ((a 8) :: ((plL 2 P1 160 ++ ((a 9) :: [])) ++ ((plL 2 P0 8 ++ ((a 10) :: [])) ++ []))))))))))) ∧ u h = some (.inr (3, [.ref (a 10), .ref (a 9), .ref (a 8), .ref (a 7), .ref (a 6), .ref (a 5), .ref (a 4), .ref (a 3), .ref (a 2), .ref (a 1), .int 0, .int 0, .int 0, .int 0])) ∧ u (a 0) = some (.inl (cA 2, 5, .inr (.inl (fun _ => 0)))) ∧ u (a 1) = some (.inr (5, [.long 0, .ref (a 0), .int 0, .int 0])) ∧ u (a 2) = some (.inl (cA 1, 24, .inl (fun _ => 0))) ∧ u (a 3) = some (.inl (cA 3, 24, .inl (fun _ => 0))) ∧ u (a 4) = some (.inl (cA 4, 24, .inr (.inr (.inr (.inr (pl_row P2 24)))))) ∧ u (a 5) = some (.inl (cA 1, 8, .inl (fun _ => 0))) ∧ u (a 6) = some (.inl (cA 1, 8, .inl (fun _ => 0))) ∧ u (a 7) = some (.inl (cA 1, 12, .inl (fun _ => 0))) ∧ u (a 8) = some (.inl (cA 1, 8, .inl (fun _ => 0))) ∧ u (a 9) = some (.inl (cA 4, 160, .inr (.inr (.inr (.inr (pl_row P1 160)))))) ∧ u (a 10) = some (.inl (cA 4, 8, .inr (.inr (.inr (.inr (pl_row P0 8)))))) ∧ (∀ a, a < 8 → pl_is 2 (K_Right cA) u (P0 a)) ∧ (∀ a, a < 160 → pl_is 2 (K_Right cA) u (P1 a)) ∧ (∀ a, a < 24 → pl_is 2 (K_Right cA) u (P2 a)))) 395 2013 (hp_A g sz) := by
  refine hp_ofW (cc := cX3_init) (maxL := 1) (ret := none) (by decide) rfl (Nat.le_of_ble_eq_true rfl) ?_
  intro pp ee ss mm bb mt cd ls cx hsz hw hl
  have hl : lv_has ls 1 [(0, .ref h)] := hl
  have w_g : nw h g g [] := nw.rf (by rw [hh]; exact fun r => nomatch r)
  refine lv_aload_n cx.1 cx.2.1 dX3_init_0 rfl (lv_at hl 0 rfl) ?_
  refine W.objInit cx.1 cx.2.1 cx.2.2.2.2.1 (cx.2.2.2.2.2.1 _ m_X3_init_oi) (cx.2.2.2.2.2.1 _ m_X3_init_oj) (cx.2.2.2.2.2.1 _ m_X3_init_ok) rfl (by rw [cx.2.2.2.1]; exact hl.1) rfl dX3_init_1 (Nat.le_of_ble_eq_true rfl) (Nat.le_of_ble_eq_true rfl) ?_
  refine W.eq (g2 := F0 mm 4 ls []) rfl ?_
  refine lv_aload_n cx.1 cx.2.1 dX3_init_4 rfl (lv_at hl 0 rfl) ?_
  refine lv_bipush (v := 8) cx.1 cx.2.1 dX3_init_5 (by decide) ?_
  refine hp_callSr (As := [.int 8]) (rest := [.ref h]) cx hw (k2_Policy_rightsOf l D cA E _ g hAO 8 8 (by decide) (by decide) (by decide)) (cwS 1 cx.2.2.2.2.2.1 gX3_init_X3_rightsOf rfl rfl rfl (by decide +kernel) ⟨Nat.le_of_ble_eq_true rfl, Nat.le_of_ble_eq_true rfl⟩) rfl hl.1 rfl (Nat.le_of_ble_eq_true rfl) dX3_init_7 ⟨Nat.le_of_ble_eq_true rfl, Nat.le_of_ble_eq_true rfl⟩ (fun r2 u1 H locs hp3 hw => ?_)
  obtain ⟨P_4, v4, f4, h4⟩ := hp3
  have x4 : nvv g u1 (plL 2 P_4 8 ++ (r2 :: [])) := v4
  have nr2 : g r2 = none := (v4.2.1 r2 (List.mem_append_right _ List.mem_cons_self)).1
  have w_u1 : nw h g u1 ((plL 2 P_4 8 ++ (r2 :: [])) ++ []) := w_g.ext x4
  have f5 : u1 h = some (.inr (3, [.null, .null, .null, .null, .null, .null, .null, .null, .null, .null, .int 0, .int 0, .int 0, .int 0])) := v4.1 _ _ hh
  refine hp_putF (C := RX3) (T := TX3) (N := 14) (ci := 3) (fs' := [.ref r2, .null, .null, .null, .null, .null, .null, .null, .null, .null, .int 0, .int 0, .int 0, .int 0]) cx hw i_X3_init_X3 tyX3_ok nmX3 rfl f5 0 (by decide) m_X3_init_f15 rfl rfl rfl rfl rfl (Nat.le_of_ble_eq_true rfl) rfl dX3_init_10 (fun g6 H locs eg6 hw => ?_)
  have f7 : g6 h = some (.inr (3, [.ref r2, .null, .null, .null, .null, .null, .null, .null, .null, .null, .int 0, .int 0, .int 0, .int 0])) := (by rw [eg6]; exact hp_up_self _ _ _)
  have w_g6 : nw h g g6 ((plL 2 P_4 8 ++ (r2 :: [])) ++ []) := w_u1.put (Or.inl rfl) eg6
  refine lv_aload_n cx.1 cx.2.1 dX3_init_13 rfl (lv_at hl 0 rfl) ?_
  refine lv_sipush (v := 160) cx.1 cx.2.1 dX3_init_14 (by decide) ?_
  refine hp_callSr (As := [.int 160]) (rest := [.ref h]) cx hw (k2_Policy_rightsOf l D cA E _ g6 hAO 160 160 (by decide) (by decide) (by decide)) (cwS 1 cx.2.2.2.2.2.1 gX3_init_X3_rightsOf rfl rfl rfl (by decide +kernel) ⟨Nat.le_of_ble_eq_true rfl, Nat.le_of_ble_eq_true rfl⟩) rfl hl.1 rfl (Nat.le_of_ble_eq_true rfl) dX3_init_17 ⟨Nat.le_of_ble_eq_true rfl, Nat.le_of_ble_eq_true rfl⟩ (fun r9 u8 H locs hp10 hw => ?_)
  obtain ⟨P_11, v11, f11, h11⟩ := hp10
  have x11 : nvv g6 u8 (plL 2 P_11 160 ++ (r9 :: [])) := v11
  have nr9 : g6 r9 = none := (v11.2.1 r9 (List.mem_append_right _ List.mem_cons_self)).1
  have w_u8 : nw h g u8 ((plL 2 P_11 160 ++ (r9 :: [])) ++ ((plL 2 P_4 8 ++ (r2 :: [])) ++ [])) := w_g6.ext x11
  have f12 : u8 h = some (.inr (3, [.ref r2, .null, .null, .null, .null, .null, .null, .null, .null, .null, .int 0, .int 0, .int 0, .int 0])) := v11.1 _ _ f7
  refine hp_putF (C := RX3) (T := TX3) (N := 14) (ci := 3) (fs' := [.ref r2, .ref r9, .null, .null, .null, .null, .null, .null, .null, .null, .int 0, .int 0, .int 0, .int 0]) cx hw i_X3_init_X3 tyX3_ok nmX3 rfl f12 1 (by decide) m_X3_init_f19 rfl rfl rfl rfl rfl (Nat.le_of_ble_eq_true rfl) rfl dX3_init_20 (fun g13 H locs eg13 hw => ?_)
  have f14 : g13 h = some (.inr (3, [.ref r2, .ref r9, .null, .null, .null, .null, .null, .null, .null, .null, .int 0, .int 0, .int 0, .int 0])) := (by rw [eg13]; exact hp_up_self _ _ _)
  have w_g13 : nw h g g13 ((plL 2 P_11 160 ++ (r9 :: [])) ++ ((plL 2 P_4 8 ++ (r2 :: [])) ++ [])) := w_u8.put (Or.inl rfl) eg13
  refine lv_aload_n cx.1 cx.2.1 dX3_init_23 rfl (lv_at hl 0 rfl) ?_
  refine lv_bipush (v := 8) cx.1 cx.2.1 dX3_init_24 (by decide) ?_
  refine hp_newa (atype := .int) (N' := 8) (a0 := (8, .inl (fun _ => 0))) cx hw m_X3_init_a1 1 (ty := .int) rfl rfl (fun _ => rfl) (by decide) (by decide) (by decide) (by exact Nat.le_of_ble_eq_true rfl) (by exact Nat.le_of_ble_eq_true rfl) dX3_init_26 (fun q15 g16 H nq15 eg16 hw => ?_)
  have f17 : g16 q15 = some (.inl (cA 1, 8, .inl (fun _ => 0))) := (by rw [eg16]; exact hp_up_self _ _ _)
  have w_g16 : nw h g g16 (q15 :: ((plL 2 P_11 160 ++ (r9 :: [])) ++ ((plL 2 P_4 8 ++ (r2 :: [])) ++ []))) := w_g13.new nq15 eg16
  have f18 : g16 h = some (.inr (3, [.ref r2, .ref r9, .null, .null, .null, .null, .null, .null, .null, .null, .int 0, .int 0, .int 0, .int 0])) := (by rw [eg16]; exact (hp_up_ne _ _ (hp_neN f14 nq15)).trans f14)
  refine hp_putF (C := RX3) (T := TX3) (N := 14) (ci := 3) (fs' := [.ref r2, .ref r9, .ref q15, .null, .null, .null, .null, .null, .null, .null, .int 0, .int 0, .int 0, .int 0]) cx hw i_X3_init_X3 tyX3_ok nmX3 rfl f18 2 (by decide) m_X3_init_f22 rfl rfl rfl rfl rfl (Nat.le_of_ble_eq_true rfl) rfl dX3_init_28 (fun g19 H locs eg19 hw => ?_)
  have f20 : g19 h = some (.inr (3, [.ref r2, .ref r9, .ref q15, .null, .null, .null, .null, .null, .null, .null, .int 0, .int 0, .int 0, .int 0])) := (by rw [eg19]; exact hp_up_self _ _ _)
  have w_g19 : nw h g g19 (q15 :: ((plL 2 P_11 160 ++ (r9 :: [])) ++ ((plL 2 P_4 8 ++ (r2 :: [])) ++ []))) := w_g16.put (Or.inl rfl) eg19
  refine lv_aload_n cx.1 cx.2.1 dX3_init_31 rfl (lv_at hl 0 rfl) ?_
  refine lv_bipush (v := 12) cx.1 cx.2.1 dX3_init_32 (by decide) ?_
  refine hp_newa (atype := .int) (N' := 12) (a0 := (12, .inl (fun _ => 0))) cx hw m_X3_init_a1 1 (ty := .int) rfl rfl (fun _ => rfl) (by decide) (by decide) (by decide) (by exact Nat.le_of_ble_eq_true rfl) (by exact Nat.le_of_ble_eq_true rfl) dX3_init_34 (fun q21 g22 H nq21 eg22 hw => ?_)
  have f23 : g22 q21 = some (.inl (cA 1, 12, .inl (fun _ => 0))) := (by rw [eg22]; exact hp_up_self _ _ _)
  have w_g22 : nw h g g22 (q21 :: (q15 :: ((plL 2 P_11 160 ++ (r9 :: [])) ++ ((plL 2 P_4 8 ++ (r2 :: [])) ++ [])))) := w_g19.new nq21 eg22
  have f24 : g22 h = some (.inr (3, [.ref r2, .ref r9, .ref q15, .null, .null, .null, .null, .null, .null, .null, .int 0, .int 0, .int 0, .int 0])) := (by rw [eg22]; exact (hp_up_ne _ _ (hp_neN f20 nq21)).trans f20)
  refine hp_putF (C := RX3) (T := TX3) (N := 14) (ci := 3) (fs' := [.ref r2, .ref r9, .ref q15, .ref q21, .null, .null, .null, .null, .null, .null, .int 0, .int 0, .int 0, .int 0]) cx hw i_X3_init_X3 tyX3_ok nmX3 rfl f24 3 (by decide) m_X3_init_f26 rfl rfl rfl rfl rfl (Nat.le_of_ble_eq_true rfl) rfl dX3_init_36 (fun g25 H locs eg25 hw => ?_)
  have f26 : g25 h = some (.inr (3, [.ref r2, .ref r9, .ref q15, .ref q21, .null, .null, .null, .null, .null, .null, .int 0, .int 0, .int 0, .int 0])) := (by rw [eg25]; exact hp_up_self _ _ _)
  have w_g25 : nw h g g25 (q21 :: (q15 :: ((plL 2 P_11 160 ++ (r9 :: [])) ++ ((plL 2 P_4 8 ++ (r2 :: [])) ++ [])))) := w_g22.put (Or.inl rfl) eg25
  refine lv_aload_n cx.1 cx.2.1 dX3_init_39 rfl (lv_at hl 0 rfl) ?_
  refine lv_bipush (v := 8) cx.1 cx.2.1 dX3_init_40 (by decide) ?_
  refine hp_newa (atype := .int) (N' := 8) (a0 := (8, .inl (fun _ => 0))) cx hw m_X3_init_a1 1 (ty := .int) rfl rfl (fun _ => rfl) (by decide) (by decide) (by decide) (by exact Nat.le_of_ble_eq_true rfl) (by exact Nat.le_of_ble_eq_true rfl) dX3_init_42 (fun q27 g28 H nq27 eg28 hw => ?_)
  have f29 : g28 q27 = some (.inl (cA 1, 8, .inl (fun _ => 0))) := (by rw [eg28]; exact hp_up_self _ _ _)
  have w_g28 : nw h g g28 (q27 :: (q21 :: (q15 :: ((plL 2 P_11 160 ++ (r9 :: [])) ++ ((plL 2 P_4 8 ++ (r2 :: [])) ++ []))))) := w_g25.new nq27 eg28
  have f30 : g28 h = some (.inr (3, [.ref r2, .ref r9, .ref q15, .ref q21, .null, .null, .null, .null, .null, .null, .int 0, .int 0, .int 0, .int 0])) := (by rw [eg28]; exact (hp_up_ne _ _ (hp_neN f26 nq27)).trans f26)
  refine hp_putF (C := RX3) (T := TX3) (N := 14) (ci := 3) (fs' := [.ref r2, .ref r9, .ref q15, .ref q21, .ref q27, .null, .null, .null, .null, .null, .int 0, .int 0, .int 0, .int 0]) cx hw i_X3_init_X3 tyX3_ok nmX3 rfl f30 4 (by decide) m_X3_init_f29 rfl rfl rfl rfl rfl (Nat.le_of_ble_eq_true rfl) rfl dX3_init_44 (fun g31 H locs eg31 hw => ?_)
  have f32 : g31 h = some (.inr (3, [.ref r2, .ref r9, .ref q15, .ref q21, .ref q27, .null, .null, .null, .null, .null, .int 0, .int 0, .int 0, .int 0])) := (by rw [eg31]; exact hp_up_self _ _ _)
  have w_g31 : nw h g g31 (q27 :: (q21 :: (q15 :: ((plL 2 P_11 160 ++ (r9 :: [])) ++ ((plL 2 P_4 8 ++ (r2 :: [])) ++ []))))) := w_g28.put (Or.inl rfl) eg31
  refine lv_aload_n cx.1 cx.2.1 dX3_init_47 rfl (lv_at hl 0 rfl) ?_
  refine lv_bipush (v := 8) cx.1 cx.2.1 dX3_init_48 (by decide) ?_
  refine hp_newa (atype := .int) (N' := 8) (a0 := (8, .inl (fun _ => 0))) cx hw m_X3_init_a1 1 (ty := .int) rfl rfl (fun _ => rfl) (by decide) (by decide) (by decide) (by exact Nat.le_of_ble_eq_true rfl) (by exact Nat.le_of_ble_eq_true rfl) dX3_init_50 (fun q33 g34 H nq33 eg34 hw => ?_)
  have f35 : g34 q33 = some (.inl (cA 1, 8, .inl (fun _ => 0))) := (by rw [eg34]; exact hp_up_self _ _ _)
  have w_g34 : nw h g g34 (q33 :: (q27 :: (q21 :: (q15 :: ((plL 2 P_11 160 ++ (r9 :: [])) ++ ((plL 2 P_4 8 ++ (r2 :: [])) ++ [])))))) := w_g31.new nq33 eg34
  have f36 : g34 h = some (.inr (3, [.ref r2, .ref r9, .ref q15, .ref q21, .ref q27, .null, .null, .null, .null, .null, .int 0, .int 0, .int 0, .int 0])) := (by rw [eg34]; exact (hp_up_ne _ _ (hp_neN f32 nq33)).trans f32)
  refine hp_putF (C := RX3) (T := TX3) (N := 14) (ci := 3) (fs' := [.ref r2, .ref r9, .ref q15, .ref q21, .ref q27, .ref q33, .null, .null, .null, .null, .int 0, .int 0, .int 0, .int 0]) cx hw i_X3_init_X3 tyX3_ok nmX3 rfl f36 5 (by decide) m_X3_init_f32 rfl rfl rfl rfl rfl (Nat.le_of_ble_eq_true rfl) rfl dX3_init_52 (fun g37 H locs eg37 hw => ?_)
  have f38 : g37 h = some (.inr (3, [.ref r2, .ref r9, .ref q15, .ref q21, .ref q27, .ref q33, .null, .null, .null, .null, .int 0, .int 0, .int 0, .int 0])) := (by rw [eg37]; exact hp_up_self _ _ _)
  have w_g37 : nw h g g37 (q33 :: (q27 :: (q21 :: (q15 :: ((plL 2 P_11 160 ++ (r9 :: [])) ++ ((plL 2 P_4 8 ++ (r2 :: [])) ++ [])))))) := w_g34.put (Or.inl rfl) eg37
  refine lv_aload_n cx.1 cx.2.1 dX3_init_55 rfl (lv_at hl 0 rfl) ?_
  refine lv_bipush (v := 24) cx.1 cx.2.1 dX3_init_56 (by decide) ?_
  refine hp_callSr (As := [.int 24]) (rest := [.ref h]) cx hw (k2_Policy_rightsOf l D cA E _ g37 hAO 24 24 (by decide) (by decide) (by decide)) (cwS 1 cx.2.2.2.2.2.1 gX3_init_X3_rightsOf rfl rfl rfl (by decide +kernel) ⟨Nat.le_of_ble_eq_true rfl, Nat.le_of_ble_eq_true rfl⟩) rfl hl.1 rfl (Nat.le_of_ble_eq_true rfl) dX3_init_58 ⟨Nat.le_of_ble_eq_true rfl, Nat.le_of_ble_eq_true rfl⟩ (fun r40 u39 H locs hp41 hw => ?_)
  obtain ⟨P_42, v42, f42, h42⟩ := hp41
  have x42 : nvv g37 u39 (plL 2 P_42 24 ++ (r40 :: [])) := v42
  have nr40 : g37 r40 = none := (v42.2.1 r40 (List.mem_append_right _ List.mem_cons_self)).1
  have w_u39 : nw h g u39 ((plL 2 P_42 24 ++ (r40 :: [])) ++ (q33 :: (q27 :: (q21 :: (q15 :: ((plL 2 P_11 160 ++ (r9 :: [])) ++ ((plL 2 P_4 8 ++ (r2 :: [])) ++ []))))))) := w_g37.ext x42
  have f43 : u39 h = some (.inr (3, [.ref r2, .ref r9, .ref q15, .ref q21, .ref q27, .ref q33, .null, .null, .null, .null, .int 0, .int 0, .int 0, .int 0])) := v42.1 _ _ f38
  refine hp_putF (C := RX3) (T := TX3) (N := 14) (ci := 3) (fs' := [.ref r2, .ref r9, .ref q15, .ref q21, .ref q27, .ref q33, .ref r40, .null, .null, .null, .int 0, .int 0, .int 0, .int 0]) cx hw i_X3_init_X3 tyX3_ok nmX3 rfl f43 6 (by decide) m_X3_init_f35 rfl rfl rfl rfl rfl (Nat.le_of_ble_eq_true rfl) rfl dX3_init_61 (fun g44 H locs eg44 hw => ?_)
  have f45 : g44 h = some (.inr (3, [.ref r2, .ref r9, .ref q15, .ref q21, .ref q27, .ref q33, .ref r40, .null, .null, .null, .int 0, .int 0, .int 0, .int 0])) := (by rw [eg44]; exact hp_up_self _ _ _)
  have w_g44 : nw h g g44 ((plL 2 P_42 24 ++ (r40 :: [])) ++ (q33 :: (q27 :: (q21 :: (q15 :: ((plL 2 P_11 160 ++ (r9 :: [])) ++ ((plL 2 P_4 8 ++ (r2 :: [])) ++ []))))))) := w_u39.put (Or.inl rfl) eg44
  refine lv_aload_n cx.1 cx.2.1 dX3_init_64 rfl (lv_at hl 0 rfl) ?_
  refine lv_bipush (v := 24) cx.1 cx.2.1 dX3_init_65 (by decide) ?_
  refine hp_newa (atype := .boolean) (N' := 24) (a0 := (24, .inl (fun _ => 0))) cx hw m_X3_init_a3 3 (ty := .boolean) rfl rfl (fun _ => rfl) (by decide) (by decide) (by decide) (by exact Nat.le_of_ble_eq_true rfl) (by exact Nat.le_of_ble_eq_true rfl) dX3_init_67 (fun q46 g47 H nq46 eg47 hw => ?_)
  have f48 : g47 q46 = some (.inl (cA 3, 24, .inl (fun _ => 0))) := (by rw [eg47]; exact hp_up_self _ _ _)
  have w_g47 : nw h g g47 (q46 :: ((plL 2 P_42 24 ++ (r40 :: [])) ++ (q33 :: (q27 :: (q21 :: (q15 :: ((plL 2 P_11 160 ++ (r9 :: [])) ++ ((plL 2 P_4 8 ++ (r2 :: [])) ++ [])))))))) := w_g44.new nq46 eg47
  have f49 : g47 h = some (.inr (3, [.ref r2, .ref r9, .ref q15, .ref q21, .ref q27, .ref q33, .ref r40, .null, .null, .null, .int 0, .int 0, .int 0, .int 0])) := (by rw [eg47]; exact (hp_up_ne _ _ (hp_neN f45 nq46)).trans f45)
  refine hp_putF (C := RX3) (T := TX3) (N := 14) (ci := 3) (fs' := [.ref r2, .ref r9, .ref q15, .ref q21, .ref q27, .ref q33, .ref r40, .ref q46, .null, .null, .int 0, .int 0, .int 0, .int 0]) cx hw i_X3_init_X3 tyX3_ok nmX3 rfl f49 7 (by decide) m_X3_init_f38 rfl rfl rfl rfl rfl (Nat.le_of_ble_eq_true rfl) rfl dX3_init_69 (fun g50 H locs eg50 hw => ?_)
  have f51 : g50 h = some (.inr (3, [.ref r2, .ref r9, .ref q15, .ref q21, .ref q27, .ref q33, .ref r40, .ref q46, .null, .null, .int 0, .int 0, .int 0, .int 0])) := (by rw [eg50]; exact hp_up_self _ _ _)
  have w_g50 : nw h g g50 (q46 :: ((plL 2 P_42 24 ++ (r40 :: [])) ++ (q33 :: (q27 :: (q21 :: (q15 :: ((plL 2 P_11 160 ++ (r9 :: [])) ++ ((plL 2 P_4 8 ++ (r2 :: [])) ++ [])))))))) := w_g47.put (Or.inl rfl) eg50
  refine lv_aload_n cx.1 cx.2.1 dX3_init_72 rfl (lv_at hl 0 rfl) ?_
  refine lv_bipush (v := 24) cx.1 cx.2.1 dX3_init_73 (by decide) ?_
  refine hp_newa (atype := .int) (N' := 24) (a0 := (24, .inl (fun _ => 0))) cx hw m_X3_init_a1 1 (ty := .int) rfl rfl (fun _ => rfl) (by decide) (by decide) (by decide) (by exact Nat.le_of_ble_eq_true rfl) (by exact Nat.le_of_ble_eq_true rfl) dX3_init_75 (fun q52 g53 H nq52 eg53 hw => ?_)
  have f54 : g53 q52 = some (.inl (cA 1, 24, .inl (fun _ => 0))) := (by rw [eg53]; exact hp_up_self _ _ _)
  have w_g53 : nw h g g53 (q52 :: (q46 :: ((plL 2 P_42 24 ++ (r40 :: [])) ++ (q33 :: (q27 :: (q21 :: (q15 :: ((plL 2 P_11 160 ++ (r9 :: [])) ++ ((plL 2 P_4 8 ++ (r2 :: [])) ++ []))))))))) := w_g50.new nq52 eg53
  have f55 : g53 h = some (.inr (3, [.ref r2, .ref r9, .ref q15, .ref q21, .ref q27, .ref q33, .ref r40, .ref q46, .null, .null, .int 0, .int 0, .int 0, .int 0])) := (by rw [eg53]; exact (hp_up_ne _ _ (hp_neN f51 nq52)).trans f51)
  refine hp_putF (C := RX3) (T := TX3) (N := 14) (ci := 3) (fs' := [.ref r2, .ref r9, .ref q15, .ref q21, .ref q27, .ref q33, .ref r40, .ref q46, .ref q52, .null, .int 0, .int 0, .int 0, .int 0]) cx hw i_X3_init_X3 tyX3_ok nmX3 rfl f55 8 (by decide) m_X3_init_f42 rfl rfl rfl rfl rfl (Nat.le_of_ble_eq_true rfl) rfl dX3_init_77 (fun g56 H locs eg56 hw => ?_)
  have f57 : g56 h = some (.inr (3, [.ref r2, .ref r9, .ref q15, .ref q21, .ref q27, .ref q33, .ref r40, .ref q46, .ref q52, .null, .int 0, .int 0, .int 0, .int 0])) := (by rw [eg56]; exact hp_up_self _ _ _)
  have w_g56 : nw h g g56 (q52 :: (q46 :: ((plL 2 P_42 24 ++ (r40 :: [])) ++ (q33 :: (q27 :: (q21 :: (q15 :: ((plL 2 P_11 160 ++ (r9 :: [])) ++ ((plL 2 P_4 8 ++ (r2 :: [])) ++ []))))))))) := w_g53.put (Or.inl rfl) eg56
  refine lv_aload_n cx.1 cx.2.1 dX3_init_80 rfl (lv_at hl 0 rfl) ?_
  refine hp_new (C := RX5) (T := TX5) (N := 4) (ci := 5) (fs := [.long 0, .null, .int 0, .int 0]) cx hw i_X3_init_X5 tyX5_ok rfl m_X3_init_k45 m_X3_init_n5 m_X3_init_z5 nwX5 (by exact Nat.le_of_ble_eq_true rfl) (by exact Nat.le_of_ble_eq_true rfl) dX3_init_81 (fun q58 g59 H nq58 eg59 hw => ?_)
  have f60 : g59 q58 = some (.inr (5, [.long 0, .null, .int 0, .int 0])) := (by rw [eg59]; exact hp_up_self _ _ _)
  have w_g59 : nw h g g59 (q58 :: (q52 :: (q46 :: ((plL 2 P_42 24 ++ (r40 :: [])) ++ (q33 :: (q27 :: (q21 :: (q15 :: ((plL 2 P_11 160 ++ (r9 :: [])) ++ ((plL 2 P_4 8 ++ (r2 :: [])) ++ [])))))))))) := w_g56.new nq58 eg59
  refine lv_dup cx.1 cx.2.1 dX3_init_84 rfl ?_
  refine hp_callIv (As := []) (rest := [.ref q58, .ref h]) cx hw (k_Right_init l D cA E _ g59 q58 f60) (cwI 0 cx.2.2.2.2.2.1 gX3_init_X5_init rfl rfl rfl (cx.2.2.2.2.2.1 _ m_X3_init_z5) (cx.2.2.2.2.2.1 _ m_X3_init_l47) (cx.2.2.2.2.2.1 _ m_X3_init_j47) rfl (by decide +kernel) ⟨Nat.le_of_ble_eq_true rfl, Nat.le_of_ble_eq_true rfl⟩) rfl hl.1 rfl (Nat.le_of_ble_eq_true rfl) dX3_init_85 ⟨Nat.le_of_ble_eq_true rfl, Nat.le_of_ble_eq_true rfl⟩ (fun u61 H locs hp63 hw => ?_)
  have hmu61 : pl_made 2 (K_Right cA) q58 g59 u61 := hp63
  obtain ⟨p64, p640, p64i, p64n⟩ := pl_made.nw (by decide) (by rw [f60]; exact fun r => nomatch r) hmu61
  have p64w : nw q58 g59 u61 ((p64 1) :: []) := p64n
  have w_u61 : nw h g u61 (((p64 1) :: []) ++ (q58 :: (q52 :: (q46 :: ((plL 2 P_42 24 ++ (r40 :: [])) ++ (q33 :: (q27 :: (q21 :: (q15 :: ((plL 2 P_11 160 ++ (r9 :: [])) ++ ((plL 2 P_4 8 ++ (r2 :: [])) ++ []))))))))))) := w_g59.call (List.mem_cons_self) p64w
  have f65 : u61 q58 = some (.inr (5, [.long 0, .ref (p64 1), .int 0, .int 0])) := by rw [← p640]; exact p64i 0 (by decide)
  have f66 : u61 (p64 1) = some (.inl (cA 2, 5, .inr (.inl (fun _ => 0)))) := p64i 1 (by decide)
  have f67 : g59 h = some (.inr (3, [.ref r2, .ref r9, .ref q15, .ref q21, .ref q27, .ref q33, .ref r40, .ref q46, .ref q52, .null, .int 0, .int 0, .int 0, .int 0])) := (by rw [eg59]; exact (hp_up_ne _ _ (hp_neN f57 nq58)).trans f57)
  have f68 : u61 h = some (.inr (3, [.ref r2, .ref r9, .ref q15, .ref q21, .ref q27, .ref q33, .ref r40, .ref q46, .ref q52, .null, .int 0, .int 0, .int 0, .int 0])) := p64w.2.2.1 _ _ (hp_neK f67 f60 (by decide)) f67
  refine hp_putF (C := RX3) (T := TX3) (N := 14) (ci := 3) (fs' := [.ref r2, .ref r9, .ref q15, .ref q21, .ref q27, .ref q33, .ref r40, .ref q46, .ref q52, .ref q58, .int 0, .int 0, .int 0, .int 0]) cx hw i_X3_init_X3 tyX3_ok nmX3 rfl f68 9 (by decide) m_X3_init_f48 rfl rfl rfl rfl rfl (Nat.le_of_ble_eq_true rfl) rfl dX3_init_88 (fun g69 H locs eg69 hw => ?_)
  have f70 : g69 h = some (.inr (3, [.ref r2, .ref r9, .ref q15, .ref q21, .ref q27, .ref q33, .ref r40, .ref q46, .ref q52, .ref q58, .int 0, .int 0, .int 0, .int 0])) := (by rw [eg69]; exact hp_up_self _ _ _)
  have w_g69 : nw h g g69 (((p64 1) :: []) ++ (q58 :: (q52 :: (q46 :: ((plL 2 P_42 24 ++ (r40 :: [])) ++ (q33 :: (q27 :: (q21 :: (q15 :: ((plL 2 P_11 160 ++ (r9 :: [])) ++ ((plL 2 P_4 8 ++ (r2 :: [])) ++ []))))))))))) := w_u61.put (Or.inl rfl) eg69
  have y_u61 : hp_extX h u61 g69 := by
    intro b e hb hg
    have b_g69 : g69 b = some e := by rw [eg69]; exact (hp_up_ne _ _ (hb)).trans hg
    exact b_g69
  have z71 : g69 (p64 1) = some (.inl (cA 2, 5, .inr (.inl (fun _ => 0)))) := w_u61.keep (List.mem_append_left _ (List.mem_cons_self)) f66 y_u61
  have f72 : g69 q58 = some (.inr (5, [.long 0, .ref (p64 1), .int 0, .int 0])) := (by rw [eg69]; exact (hp_up_ne _ _ (hp_neK f65 f68 (by decide))).trans f65)
  have f73 : g56 q52 = some (.inl (cA 1, 24, .inl (fun _ => 0))) := (by rw [eg56]; exact (hp_up_ne _ _ (hp_neAO f54 f55)).trans f54)
  have f74 : g59 q52 = some (.inl (cA 1, 24, .inl (fun _ => 0))) := (by rw [eg59]; exact (hp_up_ne _ _ (hp_neN f73 nq58)).trans f73)
  have f75 : u61 q52 = some (.inl (cA 1, 24, .inl (fun _ => 0))) := p64w.2.2.1 _ _ (hp_neAO f74 f60) f74
  have f76 : g69 q52 = some (.inl (cA 1, 24, .inl (fun _ => 0))) := (by rw [eg69]; exact (hp_up_ne _ _ (hp_neAO f75 f68)).trans f75)
  have f77 : g50 q46 = some (.inl (cA 3, 24, .inl (fun _ => 0))) := (by rw [eg50]; exact (hp_up_ne _ _ (hp_neAO f48 f49)).trans f48)
  have f78 : g53 q46 = some (.inl (cA 3, 24, .inl (fun _ => 0))) := (by rw [eg53]; exact (hp_up_ne _ _ (hp_neN f77 nq52)).trans f77)
  have f79 : g56 q46 = some (.inl (cA 3, 24, .inl (fun _ => 0))) := (by rw [eg56]; exact (hp_up_ne _ _ (hp_neAO f78 f55)).trans f78)
  have f80 : g59 q46 = some (.inl (cA 3, 24, .inl (fun _ => 0))) := (by rw [eg59]; exact (hp_up_ne _ _ (hp_neN f79 nq58)).trans f79)
  have f81 : u61 q46 = some (.inl (cA 3, 24, .inl (fun _ => 0))) := p64w.2.2.1 _ _ (hp_neAO f80 f60) f80
  have f82 : g69 q46 = some (.inl (cA 3, 24, .inl (fun _ => 0))) := (by rw [eg69]; exact (hp_up_ne _ _ (hp_neAO f81 f68)).trans f81)
  have y_u39 : hp_extX h u39 g69 := by
    intro b e hb hg
    have b_g44 : g44 b = some e := by rw [eg44]; exact (hp_up_ne _ _ (hb)).trans hg
    have b_g47 : g47 b = some e := by rw [eg47]; exact (hp_up_ne _ _ (hp_neN b_g44 nq46)).trans b_g44
    have b_g50 : g50 b = some e := by rw [eg50]; exact (hp_up_ne _ _ (hb)).trans b_g47
    have b_g53 : g53 b = some e := by rw [eg53]; exact (hp_up_ne _ _ (hp_neN b_g50 nq52)).trans b_g50
    have b_g56 : g56 b = some e := by rw [eg56]; exact (hp_up_ne _ _ (hb)).trans b_g53
    have b_g59 : g59 b = some e := by rw [eg59]; exact (hp_up_ne _ _ (hp_neN b_g56 nq58)).trans b_g56
    have b_u61 := p64w.2.2.1 b e (hp_neN hg (hp_up_none eg44 (hp_up_none eg47 (hp_up_none eg50 (hp_up_none eg53 (hp_up_none eg56 (nq58))))))) b_g59
    have b_g69 : g69 b = some e := by rw [eg69]; exact (hp_up_ne _ _ (hb)).trans b_u61
    exact b_g69
  have z83 : g69 r40 = some (.inl (cA 4, 24, .inr (.inr (.inr (.inr (pl_row P_42 24)))))) := w_u39.keep (List.mem_append_left _ (List.mem_append_right _ (List.mem_cons_self))) f42 y_u39
  have f84 : g37 q33 = some (.inl (cA 1, 8, .inl (fun _ => 0))) := (by rw [eg37]; exact (hp_up_ne _ _ (hp_neAO f35 f36)).trans f35)
  have f85 : u39 q33 = some (.inl (cA 1, 8, .inl (fun _ => 0))) := v42.1 _ _ f84
  have f86 : g44 q33 = some (.inl (cA 1, 8, .inl (fun _ => 0))) := (by rw [eg44]; exact (hp_up_ne _ _ (hp_neAO f85 f43)).trans f85)
  have f87 : g47 q33 = some (.inl (cA 1, 8, .inl (fun _ => 0))) := (by rw [eg47]; exact (hp_up_ne _ _ (hp_neN f86 nq46)).trans f86)
  have f88 : g50 q33 = some (.inl (cA 1, 8, .inl (fun _ => 0))) := (by rw [eg50]; exact (hp_up_ne _ _ (hp_neAO f87 f49)).trans f87)
  have f89 : g53 q33 = some (.inl (cA 1, 8, .inl (fun _ => 0))) := (by rw [eg53]; exact (hp_up_ne _ _ (hp_neN f88 nq52)).trans f88)
  have f90 : g56 q33 = some (.inl (cA 1, 8, .inl (fun _ => 0))) := (by rw [eg56]; exact (hp_up_ne _ _ (hp_neAO f89 f55)).trans f89)
  have f91 : g59 q33 = some (.inl (cA 1, 8, .inl (fun _ => 0))) := (by rw [eg59]; exact (hp_up_ne _ _ (hp_neN f90 nq58)).trans f90)
  have f92 : u61 q33 = some (.inl (cA 1, 8, .inl (fun _ => 0))) := p64w.2.2.1 _ _ (hp_neAO f91 f60) f91
  have f93 : g69 q33 = some (.inl (cA 1, 8, .inl (fun _ => 0))) := (by rw [eg69]; exact (hp_up_ne _ _ (hp_neAO f92 f68)).trans f92)
  have f94 : g31 q27 = some (.inl (cA 1, 8, .inl (fun _ => 0))) := (by rw [eg31]; exact (hp_up_ne _ _ (hp_neAO f29 f30)).trans f29)
  have f95 : g34 q27 = some (.inl (cA 1, 8, .inl (fun _ => 0))) := (by rw [eg34]; exact (hp_up_ne _ _ (hp_neN f94 nq33)).trans f94)
  have f96 : g37 q27 = some (.inl (cA 1, 8, .inl (fun _ => 0))) := (by rw [eg37]; exact (hp_up_ne _ _ (hp_neAO f95 f36)).trans f95)
  have f97 : u39 q27 = some (.inl (cA 1, 8, .inl (fun _ => 0))) := v42.1 _ _ f96
  have f98 : g44 q27 = some (.inl (cA 1, 8, .inl (fun _ => 0))) := (by rw [eg44]; exact (hp_up_ne _ _ (hp_neAO f97 f43)).trans f97)
  have f99 : g47 q27 = some (.inl (cA 1, 8, .inl (fun _ => 0))) := (by rw [eg47]; exact (hp_up_ne _ _ (hp_neN f98 nq46)).trans f98)
  have f100 : g50 q27 = some (.inl (cA 1, 8, .inl (fun _ => 0))) := (by rw [eg50]; exact (hp_up_ne _ _ (hp_neAO f99 f49)).trans f99)
  have f101 : g53 q27 = some (.inl (cA 1, 8, .inl (fun _ => 0))) := (by rw [eg53]; exact (hp_up_ne _ _ (hp_neN f100 nq52)).trans f100)
  have f102 : g56 q27 = some (.inl (cA 1, 8, .inl (fun _ => 0))) := (by rw [eg56]; exact (hp_up_ne _ _ (hp_neAO f101 f55)).trans f101)
  have f103 : g59 q27 = some (.inl (cA 1, 8, .inl (fun _ => 0))) := (by rw [eg59]; exact (hp_up_ne _ _ (hp_neN f102 nq58)).trans f102)
  have f104 : u61 q27 = some (.inl (cA 1, 8, .inl (fun _ => 0))) := p64w.2.2.1 _ _ (hp_neAO f103 f60) f103
  have f105 : g69 q27 = some (.inl (cA 1, 8, .inl (fun _ => 0))) := (by rw [eg69]; exact (hp_up_ne _ _ (hp_neAO f104 f68)).trans f104)
  have f106 : g25 q21 = some (.inl (cA 1, 12, .inl (fun _ => 0))) := (by rw [eg25]; exact (hp_up_ne _ _ (hp_neAO f23 f24)).trans f23)
  have f107 : g28 q21 = some (.inl (cA 1, 12, .inl (fun _ => 0))) := (by rw [eg28]; exact (hp_up_ne _ _ (hp_neN f106 nq27)).trans f106)
  have f108 : g31 q21 = some (.inl (cA 1, 12, .inl (fun _ => 0))) := (by rw [eg31]; exact (hp_up_ne _ _ (hp_neAO f107 f30)).trans f107)
  have f109 : g34 q21 = some (.inl (cA 1, 12, .inl (fun _ => 0))) := (by rw [eg34]; exact (hp_up_ne _ _ (hp_neN f108 nq33)).trans f108)
  have f110 : g37 q21 = some (.inl (cA 1, 12, .inl (fun _ => 0))) := (by rw [eg37]; exact (hp_up_ne _ _ (hp_neAO f109 f36)).trans f109)
  have f111 : u39 q21 = some (.inl (cA 1, 12, .inl (fun _ => 0))) := v42.1 _ _ f110
  have f112 : g44 q21 = some (.inl (cA 1, 12, .inl (fun _ => 0))) := (by rw [eg44]; exact (hp_up_ne _ _ (hp_neAO f111 f43)).trans f111)
  have f113 : g47 q21 = some (.inl (cA 1, 12, .inl (fun _ => 0))) := (by rw [eg47]; exact (hp_up_ne _ _ (hp_neN f112 nq46)).trans f112)
  have f114 : g50 q21 = some (.inl (cA 1, 12, .inl (fun _ => 0))) := (by rw [eg50]; exact (hp_up_ne _ _ (hp_neAO f113 f49)).trans f113)
  have f115 : g53 q21 = some (.inl (cA 1, 12, .inl (fun _ => 0))) := (by rw [eg53]; exact (hp_up_ne _ _ (hp_neN f114 nq52)).trans f114)
  have f116 : g56 q21 = some (.inl (cA 1, 12, .inl (fun _ => 0))) := (by rw [eg56]; exact (hp_up_ne _ _ (hp_neAO f115 f55)).trans f115)
  have f117 : g59 q21 = some (.inl (cA 1, 12, .inl (fun _ => 0))) := (by rw [eg59]; exact (hp_up_ne _ _ (hp_neN f116 nq58)).trans f116)
  have f118 : u61 q21 = some (.inl (cA 1, 12, .inl (fun _ => 0))) := p64w.2.2.1 _ _ (hp_neAO f117 f60) f117
  have f119 : g69 q21 = some (.inl (cA 1, 12, .inl (fun _ => 0))) := (by rw [eg69]; exact (hp_up_ne _ _ (hp_neAO f118 f68)).trans f118)
  have f120 : g19 q15 = some (.inl (cA 1, 8, .inl (fun _ => 0))) := (by rw [eg19]; exact (hp_up_ne _ _ (hp_neAO f17 f18)).trans f17)
  have f121 : g22 q15 = some (.inl (cA 1, 8, .inl (fun _ => 0))) := (by rw [eg22]; exact (hp_up_ne _ _ (hp_neN f120 nq21)).trans f120)
  have f122 : g25 q15 = some (.inl (cA 1, 8, .inl (fun _ => 0))) := (by rw [eg25]; exact (hp_up_ne _ _ (hp_neAO f121 f24)).trans f121)
  have f123 : g28 q15 = some (.inl (cA 1, 8, .inl (fun _ => 0))) := (by rw [eg28]; exact (hp_up_ne _ _ (hp_neN f122 nq27)).trans f122)
  have f124 : g31 q15 = some (.inl (cA 1, 8, .inl (fun _ => 0))) := (by rw [eg31]; exact (hp_up_ne _ _ (hp_neAO f123 f30)).trans f123)
  have f125 : g34 q15 = some (.inl (cA 1, 8, .inl (fun _ => 0))) := (by rw [eg34]; exact (hp_up_ne _ _ (hp_neN f124 nq33)).trans f124)
  have f126 : g37 q15 = some (.inl (cA 1, 8, .inl (fun _ => 0))) := (by rw [eg37]; exact (hp_up_ne _ _ (hp_neAO f125 f36)).trans f125)
  have f127 : u39 q15 = some (.inl (cA 1, 8, .inl (fun _ => 0))) := v42.1 _ _ f126
  have f128 : g44 q15 = some (.inl (cA 1, 8, .inl (fun _ => 0))) := (by rw [eg44]; exact (hp_up_ne _ _ (hp_neAO f127 f43)).trans f127)
  have f129 : g47 q15 = some (.inl (cA 1, 8, .inl (fun _ => 0))) := (by rw [eg47]; exact (hp_up_ne _ _ (hp_neN f128 nq46)).trans f128)
  have f130 : g50 q15 = some (.inl (cA 1, 8, .inl (fun _ => 0))) := (by rw [eg50]; exact (hp_up_ne _ _ (hp_neAO f129 f49)).trans f129)
  have f131 : g53 q15 = some (.inl (cA 1, 8, .inl (fun _ => 0))) := (by rw [eg53]; exact (hp_up_ne _ _ (hp_neN f130 nq52)).trans f130)
  have f132 : g56 q15 = some (.inl (cA 1, 8, .inl (fun _ => 0))) := (by rw [eg56]; exact (hp_up_ne _ _ (hp_neAO f131 f55)).trans f131)
  have f133 : g59 q15 = some (.inl (cA 1, 8, .inl (fun _ => 0))) := (by rw [eg59]; exact (hp_up_ne _ _ (hp_neN f132 nq58)).trans f132)
  have f134 : u61 q15 = some (.inl (cA 1, 8, .inl (fun _ => 0))) := p64w.2.2.1 _ _ (hp_neAO f133 f60) f133
  have f135 : g69 q15 = some (.inl (cA 1, 8, .inl (fun _ => 0))) := (by rw [eg69]; exact (hp_up_ne _ _ (hp_neAO f134 f68)).trans f134)
  have y_u8 : hp_extX h u8 g69 := by
    intro b e hb hg
    have b_g13 : g13 b = some e := by rw [eg13]; exact (hp_up_ne _ _ (hb)).trans hg
    have b_g16 : g16 b = some e := by rw [eg16]; exact (hp_up_ne _ _ (hp_neN b_g13 nq15)).trans b_g13
    have b_g19 : g19 b = some e := by rw [eg19]; exact (hp_up_ne _ _ (hb)).trans b_g16
    have b_g22 : g22 b = some e := by rw [eg22]; exact (hp_up_ne _ _ (hp_neN b_g19 nq21)).trans b_g19
    have b_g25 : g25 b = some e := by rw [eg25]; exact (hp_up_ne _ _ (hb)).trans b_g22
    have b_g28 : g28 b = some e := by rw [eg28]; exact (hp_up_ne _ _ (hp_neN b_g25 nq27)).trans b_g25
    have b_g31 : g31 b = some e := by rw [eg31]; exact (hp_up_ne _ _ (hb)).trans b_g28
    have b_g34 : g34 b = some e := by rw [eg34]; exact (hp_up_ne _ _ (hp_neN b_g31 nq33)).trans b_g31
    have b_g37 : g37 b = some e := by rw [eg37]; exact (hp_up_ne _ _ (hb)).trans b_g34
    have b_u39 := v42.1 b e b_g37
    have b_g44 : g44 b = some e := by rw [eg44]; exact (hp_up_ne _ _ (hb)).trans b_u39
    have b_g47 : g47 b = some e := by rw [eg47]; exact (hp_up_ne _ _ (hp_neN b_g44 nq46)).trans b_g44
    have b_g50 : g50 b = some e := by rw [eg50]; exact (hp_up_ne _ _ (hb)).trans b_g47
    have b_g53 : g53 b = some e := by rw [eg53]; exact (hp_up_ne _ _ (hp_neN b_g50 nq52)).trans b_g50
    have b_g56 : g56 b = some e := by rw [eg56]; exact (hp_up_ne _ _ (hb)).trans b_g53
    have b_g59 : g59 b = some e := by rw [eg59]; exact (hp_up_ne _ _ (hp_neN b_g56 nq58)).trans b_g56
    have b_u61 := p64w.2.2.1 b e (hp_neN hg (hp_up_none eg13 (hp_up_none eg16 (hp_up_none eg19 (hp_up_none eg22 (hp_up_none eg25 (hp_up_none eg28 (hp_up_none eg31 (hp_up_none eg34 (hp_up_none eg37 (hp_ext_none v42.1 (hp_up_none eg44 (hp_up_none eg47 (hp_up_none eg50 (hp_up_none eg53 (hp_up_none eg56 (nq58))))))))))))))))) b_g59
    have b_g69 : g69 b = some e := by rw [eg69]; exact (hp_up_ne _ _ (hb)).trans b_u61
    exact b_g69
  have z136 : g69 r9 = some (.inl (cA 4, 160, .inr (.inr (.inr (.inr (pl_row P_11 160)))))) := w_u8.keep (List.mem_append_left _ (List.mem_append_right _ (List.mem_cons_self))) f11 y_u8
  have y_u1 : hp_extX h u1 g69 := by
    intro b e hb hg
    have b_g6 : g6 b = some e := by rw [eg6]; exact (hp_up_ne _ _ (hb)).trans hg
    have b_u8 := v11.1 b e b_g6
    have b_g13 : g13 b = some e := by rw [eg13]; exact (hp_up_ne _ _ (hb)).trans b_u8
    have b_g16 : g16 b = some e := by rw [eg16]; exact (hp_up_ne _ _ (hp_neN b_g13 nq15)).trans b_g13
    have b_g19 : g19 b = some e := by rw [eg19]; exact (hp_up_ne _ _ (hb)).trans b_g16
    have b_g22 : g22 b = some e := by rw [eg22]; exact (hp_up_ne _ _ (hp_neN b_g19 nq21)).trans b_g19
    have b_g25 : g25 b = some e := by rw [eg25]; exact (hp_up_ne _ _ (hb)).trans b_g22
    have b_g28 : g28 b = some e := by rw [eg28]; exact (hp_up_ne _ _ (hp_neN b_g25 nq27)).trans b_g25
    have b_g31 : g31 b = some e := by rw [eg31]; exact (hp_up_ne _ _ (hb)).trans b_g28
    have b_g34 : g34 b = some e := by rw [eg34]; exact (hp_up_ne _ _ (hp_neN b_g31 nq33)).trans b_g31
    have b_g37 : g37 b = some e := by rw [eg37]; exact (hp_up_ne _ _ (hb)).trans b_g34
    have b_u39 := v42.1 b e b_g37
    have b_g44 : g44 b = some e := by rw [eg44]; exact (hp_up_ne _ _ (hb)).trans b_u39
    have b_g47 : g47 b = some e := by rw [eg47]; exact (hp_up_ne _ _ (hp_neN b_g44 nq46)).trans b_g44
    have b_g50 : g50 b = some e := by rw [eg50]; exact (hp_up_ne _ _ (hb)).trans b_g47
    have b_g53 : g53 b = some e := by rw [eg53]; exact (hp_up_ne _ _ (hp_neN b_g50 nq52)).trans b_g50
    have b_g56 : g56 b = some e := by rw [eg56]; exact (hp_up_ne _ _ (hb)).trans b_g53
    have b_g59 : g59 b = some e := by rw [eg59]; exact (hp_up_ne _ _ (hp_neN b_g56 nq58)).trans b_g56
    have b_u61 := p64w.2.2.1 b e (hp_neN hg (hp_up_none eg6 (hp_ext_none v11.1 (hp_up_none eg13 (hp_up_none eg16 (hp_up_none eg19 (hp_up_none eg22 (hp_up_none eg25 (hp_up_none eg28 (hp_up_none eg31 (hp_up_none eg34 (hp_up_none eg37 (hp_ext_none v42.1 (hp_up_none eg44 (hp_up_none eg47 (hp_up_none eg50 (hp_up_none eg53 (hp_up_none eg56 (nq58))))))))))))))))))) b_g59
    have b_g69 : g69 b = some e := by rw [eg69]; exact (hp_up_ne _ _ (hb)).trans b_u61
    exact b_g69
  have z137 : g69 r2 = some (.inl (cA 4, 8, .inr (.inr (.inr (.inr (pl_row P_4 8)))))) := w_u1.keep (List.mem_append_left _ (List.mem_append_right _ (List.mem_cons_self))) f4 y_u1
  have z138 : ∀ a, a < 8 → pl_is 2 (K_Right cA) g69 (P_4 a) := w_u1.keepP (fun m hm => List.mem_append_left _ (List.mem_append_left _ hm)) h4 y_u1
  have z139 : ∀ a, a < 160 → pl_is 2 (K_Right cA) g69 (P_11 a) := w_u8.keepP (fun m hm => List.mem_append_left _ (List.mem_append_left _ hm)) h11 y_u8
  have z140 : ∀ a, a < 24 → pl_is 2 (K_Right cA) g69 (P_42 a) := w_u39.keepP (fun m hm => List.mem_append_left _ (List.mem_append_left _ hm)) h42 y_u39
  exact hp_vret cx hw (⟨(fun k => match k with | 0 => (p64 1) | 1 => q58 | 2 => q52 | 3 => q46 | 4 => r40 | 5 => q33 | 6 => q27 | 7 => q21 | 8 => q15 | 9 => r9 | 10 => r2 | _ => 0), P_4, P_11, P_42, w_g69, f70, z71, f72, f76, f82, z83, f93, f105, f119, f135, z136, z137, z138, z139, z140⟩) dX3_init_91
