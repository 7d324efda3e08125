theorem m_X3_rightsOf_k45 : Cond.classLink RX3 45 RX5 ∈ wsX3_rightsOf := by decide +kernel
theorem m_X3_rightsOf_n5 : Cond.instantiable RX5 4 ∈ wsX3_rightsOf := by decide +kernel
theorem m_X3_rightsOf_z5 : Cond.initialized RX5 ∈ wsX3_rightsOf := by decide +kernel
set_option maxRecDepth 20000 in
theorem i_X3_rightsOf_X5 : ∀ w ∈ wsX50, w ∈ wsX3_rightsOf := by decide +kernel
theorem m_X3_rightsOf_l47 : Cond.methodLink RX3 47 yX5_init ∈ wsX3_rightsOf := by decide +kernel
theorem m_X3_rightsOf_j47 : Cond.instanceMethod yX5_init ∈ wsX3_rightsOf := by decide +kernel
set_option maxHeartbeats 4000000 in
set_option maxRecDepth 100000 in
/-- rightsOf(n) -/
theorem k_Policy_rightsOf (l : Launch) (D : va_G) (cA : Nat → ClassId) (E : hp_N) (sz : Nat) (g : hp_M) (hAO : ∀ A U H, E A U H → va_AO "WardenHouse$Right" U) (n : Int32) (N : Nat) (hp : 0 < n) (hN : n = nI N) (hb : N ≤ 4096) : Met l yX3_rightsOf wsX3_rightsOf ({ frames := 2, cells := 1 + 2 * N, slots := N + 9 * N, locals := 40 }) (hp_Pc D vwCl (hp_Tl cA) E sz g [.int n]) (hp_Qr D vwCl (hp_Tl cA) sz g (fun a u => hp_ext g u ∧ g a = none ∧ pl_full 2 4 N (K_Right cA) cA g u a)) (1 + 2 * N) (N + 9 * N) (hp_A g sz) := by
  refine hp_ofW (cc := cX3_rightsOf) (maxL := 3) (ret := (some (.array (.object "WardenHouse$Right")))) (by decide) rfl (Nat.le_of_ble_eq_true rfl) ?_
  intro pp ee ss mm bb mt cd ls cx hsz hw hl
  have hl : lv_has ls 3 [(0, .int n)] := hl
  refine lv_iload_n cx.1 cx.2.1 dX3_rightsOf_0 rfl (lv_at hl 0 rfl) ?_
  refine lv_if_le (tgt := 8) cx.1 cx.2.1 dX3_rightsOf_1 (by decide) (fun c1_1 => ?_) (fun c1_1 => ?_)
  · exact absurd c1_1 (Int32.not_le.mpr hp)
  refine lv_iload_n cx.1 cx.2.1 dX3_rightsOf_4 rfl (lv_at hl 0 rfl) ?_
  refine lv_goto (tgt := 9) cx.1 cx.2.1 dX3_rightsOf_5 (by decide) ?_
  refine hp_newq (N' := N) cx hw m_X3_rightsOf_k45 (hAO _ _ _ hw.2.2.2.2.2) 4 rfl (Int32.not_lt.mpr (Int32.le_of_lt hp)) (by rw [hN]; exact nI_clamp (by omega)) (by omega) (by (try dsimp only); omega) (by (try dsimp only); omega) dX3_rightsOf_9 (fun q2 g3 H nq2 eg3 hw => ?_)
  have f4 : g3 q2 = some (.inl (cA 4, N, .inr (.inr (.inr (.inr (fun _ => none)))))) := (by rw [eg3]; exact hp_up_self _ _ _)
  refine lv_astore_n (lv' := [(1, .ref q2), (0, .int n)]) cx.1 cx.2.1 dX3_rightsOf_12 rfl hl (by decide) rfl (fun ls hl => ?_)
  refine lv_iconst (v := 0) cx.1 cx.2.1 dX3_rightsOf_13 (by decide) ?_
  refine lv_istore_n (lv' := [(2, .int 0), (1, .ref q2), (0, .int n)]) cx.1 cx.2.1 dX3_rightsOf_14 rfl hl (by decide) rfl (fun ls hl => ?_)
  have loop : ∀ (j i : Nat) (gi : hp_M) (H : Heap) (locs : List Loc) (ls : Array Slot), i + j = N → pl_inv 2 4 N (K_Right cA) cA g3 q2 i gi → hp_w D vwCl (hp_Tl cA) E (hp_A g sz) ss H locs gi → lv_has ls 3 [(2, .int (nI i)), (1, .ref q2), (0, .int n)] → W pp l ee ({ frames := 2, cells := 1 + 2 * N, slots := N + 9 * N, locals := 40 }) ss mm [.int n].toArray bb mt cd H locs (1 + 2 * i) (N + 9 * i) (MQ bb (hp_Qr D vwCl (hp_Tl cA) sz g (fun a u => hp_ext g u ∧ g a = none ∧ pl_full 2 4 N (K_Right cA) cA g u a)) [.int n].toArray ss (1 + 2 * N) (N + 9 * N) (hp_A g sz)) (F0 mm 15 ls []) := by
    intro j
    induction j with
    | zero =>
      intro i gi H locs ls hij hinv hw hl
      obtain ⟨row, P, h1, h2, h3, h4, h5⟩ := hinv
      have hi : i = N := by omega
      refine lv_iload_n cx.1 cx.2.1 dX3_rightsOf_15 rfl (lv_at hl 0 rfl) ?_
      refine lv_aload_n cx.1 cx.2.1 dX3_rightsOf_16 rfl (lv_at hl 1 rfl) ?_
      refine hp_alen (v := (nI N)) cx hw 4 h1 rfl rfl dX3_rightsOf_17 ?_
      refine lv_icmp_ge (tgt := 37) cx.1 cx.2.1 dX3_rightsOf_18 (by decide) (fun c18_5 => ?_) (fun c18_5 => ?_)
      rotate_left
      · exact absurd (by rw [hi]; exact Int32.le_refl _) c18_5
      have nq : g q2 = none := nq2
      have hxg : hp_ext g gi := fun b e hg => h4 b e (hp_neN hg nq) (hp_ext.new nq eg3 b e hg)
      refine W.widen (k := 1 + 2 * N) (n := N + 9 * N) (by omega) (by omega) ?_
      refine lv_aload_n cx.1 cx.2.1 dX3_rightsOf_37 rfl (lv_at hl 1 rfl) ?_
      exact hp_aret cx hw (⟨hxg, nq, row, P, h1, by rw [← hi]; exact h2, by rw [← hi]; exact h3, fun a b ha hb => hp_up_none eg3 (h5 a b (by omega) hb)⟩) (Or.inr ⟨_, rfl⟩) dX3_rightsOf_38
    | succ j ih =>
      intro i gi H locs ls hij hinv hw hl
      obtain ⟨row, P, h1, h2, h3, h4, h5⟩ := hinv
      have hlt : i < N := by omega
      refine lv_iload_n cx.1 cx.2.1 dX3_rightsOf_15 rfl (lv_at hl 0 rfl) ?_
      refine lv_aload_n cx.1 cx.2.1 dX3_rightsOf_16 rfl (lv_at hl 1 rfl) ?_
      refine hp_alen (v := (nI N)) cx hw 4 h1 rfl rfl dX3_rightsOf_17 ?_
      refine lv_icmp_ge (tgt := 37) cx.1 cx.2.1 dX3_rightsOf_18 (by decide) (fun c18_6 => ?_) (fun c18_6 => ?_)
      · exact absurd c18_6 (nI_ge hlt (by omega))
      refine lv_aload_n cx.1 cx.2.1 dX3_rightsOf_21 rfl (lv_at hl 1 rfl) ?_
      refine lv_iload_n cx.1 cx.2.1 dX3_rightsOf_22 rfl (lv_at hl 0 rfl) ?_
      refine hp_new (C := RX5) (T := TX5) (N := 4) (ci := 5) (fs := [.long 0, .null, .int 0, .int 0]) cx hw i_X3_rightsOf_X5 tyX5_ok rfl m_X3_rightsOf_k45 m_X3_rightsOf_n5 m_X3_rightsOf_z5 nwX5 (by (try dsimp only); omega) (by (try dsimp only); omega) dX3_rightsOf_23 (fun q7 g8 H nq7 eg8 hw => ?_)
      have f9 : g8 q7 = some (.inr (5, [.long 0, .null, .int 0, .int 0])) := (by rw [eg8]; exact hp_up_self _ _ _)
      refine lv_dup cx.1 cx.2.1 dX3_rightsOf_26 rfl ?_
      refine hp_callIv (As := []) (rest := [.ref q7, .int (nI i), .ref q2]) cx hw (k_Right_init l D cA E _ g8 q7 f9) (cwI 0 cx.2.2.2.2.2.1 gX3_rightsOf_X5_init rfl rfl rfl (cx.2.2.2.2.2.1 _ m_X3_rightsOf_z5) (cx.2.2.2.2.2.1 _ m_X3_rightsOf_l47) (cx.2.2.2.2.2.1 _ m_X3_rightsOf_j47) rfl (by decide +kernel) ⟨Nat.le_of_ble_eq_true rfl, Nat.le_of_ble_eq_true rfl⟩) rfl hl.1 rfl (Nat.le_of_ble_eq_true rfl) dX3_rightsOf_27 ⟨by (try dsimp only); omega, by (try dsimp only); omega⟩ (fun u10 H locs hp12 hw => ?_)
      have hmu10 : pl_made 2 (K_Right cA) q7 g8 u10 := hp12
      obtain ⟨p13, p130, p13i, p13n, p13j, p13x⟩ := hp12
      have f14 : u10 q7 = some (.inr (5, [.long 0, .ref (p13 1), .int 0, .int 0])) := by rw [← p130]; exact p13i 0 (by decide)
      have f15 : g8 q2 = some (.inl (cA 4, N, .inr (.inr (.inr (.inr row))))) := (by rw [eg8]; exact (hp_up_ne _ _ (hp_neN h1 nq7)).trans h1)
      have f16 : u10 q2 = some (.inl (cA 4, N, .inr (.inr (.inr (.inr row))))) := p13x _ _ (hp_neAO f15 f9) f15
      refine hp_aast (r := (RX5, TX5, 4)) cx hw 4 f16 rfl f14 rfl (vp_in_nI hlt (by omega)) dX3_rightsOf_30 (fun g17 H locs eg17 hw => ?_)
      have f18 : g17 q2 = some (.inl (cA 4, N, .inr (.inr (.inr (.inr (va_up row (nI i).toNatClampNeg (some q7))))))) := (by rw [eg17]; exact hp_up_self _ _ _)
      refine lv_iinc (v := (nI (i + 1))) (lv' := [(2, .int (nI (i + 1))), (1, .ref q2), (0, .int n)]) cx.1 cx.2.1 dX3_rightsOf_31 hl (k := 0) rfl (nI_1 i) (by decide) rfl (fun ls hl => ?_)
      refine lv_goto (tgt := 15) cx.1 cx.2.1 dX3_rightsOf_34 (by decide) ?_
      refine W.widen (k := 1 + 2 * (i + 1)) (n := N + 9 * (i + 1)) (by omega) (by omega) ?_
      exact ih (i + 1) g17 H locs ls (by omega) (pl_inv.step h1 h2 h3 h4 h5 nq7 eg8 hmu10 (by rw [nI_clamp (by omega)]) eg17 (K_Right_ne cA) (by decide)) hw (lv_sub hl [0, 1, 2] rfl)
  refine W.widen (k := 1 + 2 * 0) (n := N + 9 * 0) (by omega) (by omega) ?_
  exact loop N 0 g3 _ _ _ (by omega) (pl_inv.start f4) hw (lv_sub hl [0, 1, 2] rfl)

theorem m_X0_init_oi : Cond.methodLink RX0 3 objectInit ∈ wsX0_init := by decide +kernel
theorem m_X0_init_oj : Cond.instanceMethod objectInit ∈ wsX0_init := by decide +kernel
theorem m_X0_init_ok : Cond.code objectInit ⟨#[0xb1]⟩ 1 none ∈ wsX0_init := by decide +kernel
theorem m_X0_init_k9 : Cond.classLink RX0 9 RX6 ∈ wsX0_init := by decide +kernel
theorem m_X0_init_n6 : Cond.instantiable RX6 2 ∈ wsX0_init := by decide +kernel
theorem m_X0_init_z6 : Cond.initialized RX6 ∈ wsX0_init := by decide +kernel
set_option maxRecDepth 20000 in
theorem i_X0_init_X6 : ∀ w ∈ wsX60, w ∈ wsX0_init := by decide +kernel
theorem m_X0_init_l11 : Cond.methodLink RX0 11 yX6_init ∈ wsX0_init := by decide +kernel
theorem m_X0_init_j11 : Cond.instanceMethod yX6_init ∈ wsX0_init := by decide +kernel
theorem m_X0_init_f14 : Cond.fieldLink RX0 14 "WardenHouse$Contexts" "starts" "LWardenHouse$Row;" ∈ wsX0_init := by decide +kernel
set_option maxRecDepth 20000 in
theorem i_X0_init_X0 : ∀ w ∈ wsX00, w ∈ wsX0_init := by decide +kernel
theorem m_X0_init_f20 : Cond.fieldLink RX0 20 "WardenHouse$Contexts" "products" "LWardenHouse$Row;" ∈ wsX0_init := by decide +kernel
theorem m_X0_init_f23 : Cond.fieldLink RX0 23 "WardenHouse$Contexts" "chain" "LWardenHouse$Row;" ∈ wsX0_init := by decide +kernel
theorem m_X0_init_a1 : Cond.arrayClass .int ∈ wsX0_init := by decide +kernel
theorem m_X0_init_f26 : Cond.fieldLink RX0 26 "WardenHouse$Contexts" "heads" "[I" ∈ wsX0_init := by decide +kernel
theorem m_X0_init_f30 : Cond.fieldLink RX0 30 "WardenHouse$Contexts" "draft" "[I" ∈ wsX0_init := by decide +kernel
set_option maxHeartbeats 4000000 in
set_option maxRecDepth 100000 in
/-- Contexts() -/
theorem k_Contexts_init (l : Launch) (D : va_G) (cA : Nat → ClassId) (E : hp_N) (sz : Nat) (g : hp_M)  (h : Nat) (hh : g h = some (.inr (0, [.null, .null, .null, .null, .null, .int 0]))) : Met l yX0_init wsX0_init ({ frames := 2, cells := 8, slots := 340, locals := 40 }) (hp_Pc D vwCl (hp_Tl cA) E sz g [.ref h]) (hp_Qv D vwCl (hp_Tl cA) sz g (fun u => hp_extX h g u ∧ ∃ a : Nat → Nat, u h = some (.inr (0, [.ref (a 0), .ref (a 1), .ref (a 2), .ref (a 3), .ref (a 4), .int 0])))) 8 340 (hp_A g sz) := by
  refine hp_ofW (cc := cX0_init) (maxL := 1) (ret := none) (by decide) rfl (Nat.le_of_ble_eq_true rfl) ?_
  intro pp ee ss mm bb mt cd ls cx hsz hw hl
  have hl : lv_has ls 1 [(0, .ref h)] := hl
  refine lv_aload_n cx.1 cx.2.1 dX0_init_0 rfl (lv_at hl 0 rfl) ?_
  refine W.objInit cx.1 cx.2.1 cx.2.2.2.2.1 (cx.2.2.2.2.2.1 _ m_X0_init_oi) (cx.2.2.2.2.2.1 _ m_X0_init_oj) (cx.2.2.2.2.2.1 _ m_X0_init_ok) rfl (by rw [cx.2.2.2.1]; exact hl.1) rfl dX0_init_1 (Nat.le_of_ble_eq_true rfl) (Nat.le_of_ble_eq_true rfl) ?_
  refine W.eq (g2 := F0 mm 4 ls []) rfl ?_
  refine lv_aload_n cx.1 cx.2.1 dX0_init_4 rfl (lv_at hl 0 rfl) ?_
  refine hp_new (C := RX6) (T := TX6) (N := 2) (ci := 6) (fs := [.null, .int 0]) cx hw i_X0_init_X6 tyX6_ok rfl m_X0_init_k9 m_X0_init_n6 m_X0_init_z6 nwX6 (by exact Nat.le_of_ble_eq_true rfl) (by exact Nat.le_of_ble_eq_true rfl) dX0_init_5 (fun q1 g2 H nq1 eg2 hw => ?_)
  have f3 : g2 q1 = some (.inr (6, [.null, .int 0])) := (by rw [eg2]; exact hp_up_self _ _ _)
  refine lv_dup cx.1 cx.2.1 dX0_init_8 rfl ?_
  refine lv_bipush (v := 16) cx.1 cx.2.1 dX0_init_9 (by decide) ?_
  refine hp_callIv (As := [.int 16]) (rest := [.ref q1, .ref h]) cx hw (k_Row_init l D cA E _ g2 q1 0 16 16 f3 (by decide) (by decide) (by decide)) (cwI 1 cx.2.2.2.2.2.1 gX0_init_X6_init rfl rfl rfl (cx.2.2.2.2.2.1 _ m_X0_init_z6) (cx.2.2.2.2.2.1 _ m_X0_init_l11) (cx.2.2.2.2.2.1 _ m_X0_init_j11) rfl (by decide +kernel) ⟨Nat.le_of_ble_eq_true rfl, Nat.le_of_ble_eq_true rfl⟩) rfl hl.1 rfl (Nat.le_of_ble_eq_true rfl) dX0_init_11 ⟨Nat.le_of_ble_eq_true rfl, Nat.le_of_ble_eq_true rfl⟩ (fun u4 H locs hp6 hw => ?_)
  obtain ⟨k7, g8, nk7, eg8, eu4⟩ := hp6
  have f9 : g8 k7 = some (.inl (cA 2, 16, .inr (.inl (fun _ => 0)))) := (by rw [eg8]; exact hp_up_self _ _ _)
  have f10 : u4 q1 = some (.inr (6, [.ref k7, .int 0])) := (by rw [eu4]; exact hp_up_self _ _ _)
  have f11 : g2 h = some (.inr (0, [.null, .null, .null, .null, .null, .int 0])) := (by rw [eg2]; exact (hp_up_ne _ _ (hp_neN hh nq1)).trans hh)
  have f12 : g8 h = some (.inr (0, [.null, .null, .null, .null, .null, .int 0])) := (by rw [eg8]; exact (hp_up_ne _ _ (hp_neN f11 nk7)).trans f11)
  have f13 : u4 h = some (.inr (0, [.null, .null, .null, .null, .null, .int 0])) := (by rw [eu4]; exact (hp_up_ne _ _ (hp_neN hh nq1)).trans f12)
  refine hp_putF (C := RX0) (T := TX0) (N := 6) (ci := 0) (fs' := [.ref q1, .null, .null, .null, .null, .int 0]) cx hw i_X0_init_X0 tyX0_ok nmX0 rfl f13 0 (by decide) m_X0_init_f14 rfl rfl rfl rfl rfl (Nat.le_of_ble_eq_true rfl) rfl dX0_init_14 (fun g14 H locs eg14 hw => ?_)
  have f15 : g14 h = some (.inr (0, [.ref q1, .null, .null, .null, .null, .int 0])) := (by rw [eg14]; exact hp_up_self _ _ _)
  refine lv_aload_n cx.1 cx.2.1 dX0_init_17 rfl (lv_at hl 0 rfl) ?_
  refine hp_new (C := RX6) (T := TX6) (N := 2) (ci := 6) (fs := [.null, .int 0]) cx hw i_X0_init_X6 tyX6_ok rfl m_X0_init_k9 m_X0_init_n6 m_X0_init_z6 nwX6 (by exact Nat.le_of_ble_eq_true rfl) (by exact Nat.le_of_ble_eq_true rfl) dX0_init_18 (fun q16 g17 H nq16 eg17 hw => ?_)
  have f18 : g17 q16 = some (.inr (6, [.null, .int 0])) := (by rw [eg17]; exact hp_up_self _ _ _)
  refine lv_dup cx.1 cx.2.1 dX0_init_21 rfl ?_
  refine lv_bipush (v := 32) cx.1 cx.2.1 dX0_init_22 (by decide) ?_
  refine hp_callIv (As := [.int 32]) (rest := [.ref q16, .ref h]) cx hw (k_Row_init l D cA E _ g17 q16 0 32 32 f18 (by decide) (by decide) (by decide)) (cwI 1 cx.2.2.2.2.2.1 gX0_init_X6_init rfl rfl rfl (cx.2.2.2.2.2.1 _ m_X0_init_z6) (cx.2.2.2.2.2.1 _ m_X0_init_l11) (cx.2.2.2.2.2.1 _ m_X0_init_j11) rfl (by decide +kernel) ⟨Nat.le_of_ble_eq_true rfl, Nat.le_of_ble_eq_true rfl⟩) rfl hl.1 rfl (Nat.le_of_ble_eq_true rfl) dX0_init_24 ⟨Nat.le_of_ble_eq_true rfl, Nat.le_of_ble_eq_true rfl⟩ (fun u19 H locs hp21 hw => ?_)
  obtain ⟨k22, g23, nk22, eg23, eu19⟩ := hp21
  have f24 : g23 k22 = some (.inl (cA 2, 32, .inr (.inl (fun _ => 0)))) := (by rw [eg23]; exact hp_up_self _ _ _)
  have f25 : u19 q16 = some (.inr (6, [.ref k22, .int 0])) := (by rw [eu19]; exact hp_up_self _ _ _)
  have f26 : g17 h = some (.inr (0, [.ref q1, .null, .null, .null, .null, .int 0])) := (by rw [eg17]; exact (hp_up_ne _ _ (hp_neN f15 nq16)).trans f15)
  have f27 : g23 h = some (.inr (0, [.ref q1, .null, .null, .null, .null, .int 0])) := (by rw [eg23]; exact (hp_up_ne _ _ (hp_neN f26 nk22)).trans f26)
  have f28 : u19 h = some (.inr (0, [.ref q1, .null, .null, .null, .null, .int 0])) := (by rw [eu19]; exact (hp_up_ne _ _ (hp_neN f15 nq16)).trans f27)
  refine hp_putF (C := RX0) (T := TX0) (N := 6) (ci := 0) (fs' := [.ref q1, .ref q16, .null, .null, .null, .int 0]) cx hw i_X0_init_X0 tyX0_ok nmX0 rfl f28 1 (by decide) m_X0_init_f20 rfl rfl rfl rfl rfl (Nat.le_of_ble_eq_true rfl) rfl dX0_init_27 (fun g29 H locs eg29 hw => ?_)
  have f30 : g29 h = some (.inr (0, [.ref q1, .ref q16, .null, .null, .null, .int 0])) := (by rw [eg29]; exact hp_up_self _ _ _)
  refine lv_aload_n cx.1 cx.2.1 dX0_init_30 rfl (lv_at hl 0 rfl) ?_
  refine hp_new (C := RX6) (T := TX6) (N := 2) (ci := 6) (fs := [.null, .int 0]) cx hw i_X0_init_X6 tyX6_ok rfl m_X0_init_k9 m_X0_init_n6 m_X0_init_z6 nwX6 (by exact Nat.le_of_ble_eq_true rfl) (by exact Nat.le_of_ble_eq_true rfl) dX0_init_31 (fun q31 g32 H nq31 eg32 hw => ?_)
  have f33 : g32 q31 = some (.inr (6, [.null, .int 0])) := (by rw [eg32]; exact hp_up_self _ _ _)
  refine lv_dup cx.1 cx.2.1 dX0_init_34 rfl ?_
  refine lv_bipush (v := 16) cx.1 cx.2.1 dX0_init_35 (by decide) ?_
  refine hp_callIv (As := [.int 16]) (rest := [.ref q31, .ref h]) cx hw (k_Row_init l D cA E _ g32 q31 0 16 16 f33 (by decide) (by decide) (by decide)) (cwI 1 cx.2.2.2.2.2.1 gX0_init_X6_init rfl rfl rfl (cx.2.2.2.2.2.1 _ m_X0_init_z6) (cx.2.2.2.2.2.1 _ m_X0_init_l11) (cx.2.2.2.2.2.1 _ m_X0_init_j11) rfl (by decide +kernel) ⟨Nat.le_of_ble_eq_true rfl, Nat.le_of_ble_eq_true rfl⟩) rfl hl.1 rfl (Nat.le_of_ble_eq_true rfl) dX0_init_37 ⟨Nat.le_of_ble_eq_true rfl, Nat.le_of_ble_eq_true rfl⟩ (fun u34 H locs hp36 hw => ?_)
  obtain ⟨k37, g38, nk37, eg38, eu34⟩ := hp36
  have f39 : g38 k37 = some (.inl (cA 2, 16, .inr (.inl (fun _ => 0)))) := (by rw [eg38]; exact hp_up_self _ _ _)
  have f40 : u34 q31 = some (.inr (6, [.ref k37, .int 0])) := (by rw [eu34]; exact hp_up_self _ _ _)
  have f41 : g32 h = some (.inr (0, [.ref q1, .ref q16, .null, .null, .null, .int 0])) := (by rw [eg32]; exact (hp_up_ne _ _ (hp_neN f30 nq31)).trans f30)
  have f42 : g38 h = some (.inr (0, [.ref q1, .ref q16, .null, .null, .null, .int 0])) := (by rw [eg38]; exact (hp_up_ne _ _ (hp_neN f41 nk37)).trans f41)
  have f43 : u34 h = some (.inr (0, [.ref q1, .ref q16, .null, .null, .null, .int 0])) := (by rw [eu34]; exact (hp_up_ne _ _ (hp_neN f30 nq31)).trans f42)
  refine hp_putF (C := RX0) (T := TX0) (N := 6) (ci := 0) (fs' := [.ref q1, .ref q16, .ref q31, .null, .null, .int 0]) cx hw i_X0_init_X0 tyX0_ok nmX0 rfl f43 2 (by decide) m_X0_init_f23 rfl rfl rfl rfl rfl (Nat.le_of_ble_eq_true rfl) rfl dX0_init_40 (fun g44 H locs eg44 hw => ?_)
  have f45 : g44 h = some (.inr (0, [.ref q1, .ref q16, .ref q31, .null, .null, .int 0])) := (by rw [eg44]; exact hp_up_self _ _ _)
  refine lv_aload_n cx.1 cx.2.1 dX0_init_43 rfl (lv_at hl 0 rfl) ?_
  refine lv_sipush (v := 256) cx.1 cx.2.1 dX0_init_44 (by decide) ?_
  refine hp_newa (atype := .int) (N' := 256) (a0 := (256, .inl (fun _ => 0))) cx hw m_X0_init_a1 1 (ty := .int) rfl rfl (fun _ => rfl) (by decide) (by decide) (by decide) (by exact Nat.le_of_ble_eq_true rfl) (by exact Nat.le_of_ble_eq_true rfl) dX0_init_47 (fun q46 g47 H nq46 eg47 hw => ?_)
  have f48 : g47 q46 = some (.inl (cA 1, 256, .inl (fun _ => 0))) := (by rw [eg47]; exact hp_up_self _ _ _)
  have f49 : g47 h = some (.inr (0, [.ref q1, .ref q16, .ref q31, .null, .null, .int 0])) := (by rw [eg47]; exact (hp_up_ne _ _ (hp_neN f45 nq46)).trans f45)
  refine hp_putF (C := RX0) (T := TX0) (N := 6) (ci := 0) (fs' := [.ref q1, .ref q16, .ref q31, .ref q46, .null, .int 0]) cx hw i_X0_init_X0 tyX0_ok nmX0 rfl f49 3 (by decide) m_X0_init_f26 rfl rfl rfl rfl rfl (Nat.le_of_ble_eq_true rfl) rfl dX0_init_49 (fun g50 H locs eg50 hw => ?_)
  have f51 : g50 h = some (.inr (0, [.ref q1, .ref q16, .ref q31, .ref q46, .null, .int 0])) := (by rw [eg50]; exact hp_up_self _ _ _)
  refine lv_aload_n cx.1 cx.2.1 dX0_init_52 rfl (lv_at hl 0 rfl) ?_
  refine lv_bipush (v := 14) cx.1 cx.2.1 dX0_init_53 (by decide) ?_
  refine hp_newa (atype := .int) (N' := 14) (a0 := (14, .inl (fun _ => 0))) cx hw m_X0_init_a1 1 (ty := .int) rfl rfl (fun _ => rfl) (by decide) (by decide) (by decide) (by exact Nat.le_of_ble_eq_true rfl) (by exact Nat.le_of_ble_eq_true rfl) dX0_init_55 (fun q52 g53 H nq52 eg53 hw => ?_)
  have f54 : g53 q52 = some (.inl (cA 1, 14, .inl (fun _ => 0))) := (by rw [eg53]; exact hp_up_self _ _ _)
  have f55 : g53 h = some (.inr (0, [.ref q1, .ref q16, .ref q31, .ref q46, .null, .int 0])) := (by rw [eg53]; exact (hp_up_ne _ _ (hp_neN f51 nq52)).trans f51)
  refine hp_putF (C := RX0) (T := TX0) (N := 6) (ci := 0) (fs' := [.ref q1, .ref q16, .ref q31, .ref q46, .ref q52, .int 0]) cx hw i_X0_init_X0 tyX0_ok nmX0 rfl f55 4 (by decide) m_X0_init_f30 rfl rfl rfl rfl rfl (Nat.le_of_ble_eq_true rfl) rfl dX0_init_57 (fun g56 H locs eg56 hw => ?_)
  have f57 : g56 h = some (.inr (0, [.ref q1, .ref q16, .ref q31, .ref q46, .ref q52, .int 0])) := (by rw [eg56]; exact hp_up_self _ _ _)
  have hxt : hp_extX h g g56 := by
    intro b e hb hg
    have b_g2 : g2 b = some e := by rw [eg2]; exact (hp_up_ne _ _ (hp_neN hg nq1)).trans hg
    have b_g8 : g8 b = some e := by rw [eg8]; exact (hp_up_ne _ _ (hp_neN b_g2 nk7)).trans b_g2
    have b_u4 : u4 b = some e := by rw [eu4]; exact (hp_up_ne _ _ (hp_neN hg (nq1))).trans b_g8
    have b_g14 : g14 b = some e := by rw [eg14]; exact (hp_up_ne _ _ (hb)).trans b_u4
    have b_g17 : g17 b = some e := by rw [eg17]; exact (hp_up_ne _ _ (hp_neN b_g14 nq16)).trans b_g14
    have b_g23 : g23 b = some e := by rw [eg23]; exact (hp_up_ne _ _ (hp_neN b_g17 nk22)).trans b_g17
    have b_u19 : u19 b = some e := by rw [eu19]; exact (hp_up_ne _ _ (hp_neN hg (hp_up_none eg2 (hp_up_none eg8 (hp_up_none eu4 (hp_up_none eg14 (nq16))))))).trans b_g23
    have b_g29 : g29 b = some e := by rw [eg29]; exact (hp_up_ne _ _ (hb)).trans b_u19
    have b_g32 : g32 b = some e := by rw [eg32]; exact (hp_up_ne _ _ (hp_neN b_g29 nq31)).trans b_g29
    have b_g38 : g38 b = some e := by rw [eg38]; exact (hp_up_ne _ _ (hp_neN b_g32 nk37)).trans b_g32
    have b_u34 : u34 b = some e := by rw [eu34]; exact (hp_up_ne _ _ (hp_neN hg (hp_up_none eg2 (hp_up_none eg8 (hp_up_none eu4 (hp_up_none eg14 (hp_up_none eg17 (hp_up_none eg23 (hp_up_none eu19 (hp_up_none eg29 (nq31))))))))))).trans b_g38
    have b_g44 : g44 b = some e := by rw [eg44]; exact (hp_up_ne _ _ (hb)).trans b_u34
    have b_g47 : g47 b = some e := by rw [eg47]; exact (hp_up_ne _ _ (hp_neN b_g44 nq46)).trans b_g44
    have b_g50 : g50 b = some e := by rw [eg50]; exact (hp_up_ne _ _ (hb)).trans b_g47
    have b_g53 : g53 b = some e := by rw [eg53]; exact (hp_up_ne _ _ (hp_neN b_g50 nq52)).trans b_g50
    have b_g56 : g56 b = some e := by rw [eg56]; exact (hp_up_ne _ _ (hb)).trans b_g53
    exact b_g56
  exact hp_vret cx hw (⟨hxt, (fun k => match k with | 0 => q1 | 1 => q16 | 2 => q31 | 3 => q46 | 4 => q52 | _ => 0), f57⟩) dX0_init_60

theorem m_X3_init_oi : Cond.methodLink RX3 5 objectInit ∈ wsX3_init := by decide +kernel
theorem m_X3_init_oj : Cond.instanceMethod objectInit ∈ wsX3_init := by decide +kernel
theorem m_X3_init_ok : Cond.code objectInit ⟨#[0xb1]⟩ 1 none ∈ wsX3_init := by decide +kernel
theorem m_X3_init_f15 : Cond.fieldLink RX3 15 "WardenHouse$Policy" "grants" "[LWardenHouse$Right;" ∈ wsX3_init := by decide +kernel
set_option maxRecDepth 20000 in
theorem i_X3_init_X3 : ∀ w ∈ wsX30, w ∈ wsX3_init := by decide +kernel
theorem m_X3_init_f19 : Cond.fieldLink RX3 19 "WardenHouse$Policy" "rights" "[LWardenHouse$Right;" ∈ wsX3_init := by decide +kernel
theorem m_X3_init_a1 : Cond.arrayClass .int ∈ wsX3_init := by decide +kernel
theorem m_X3_init_f22 : Cond.fieldLink RX3 22 "WardenHouse$Policy" "grantSizes" "[I" ∈ wsX3_init := by decide +kernel
theorem m_X3_init_f26 : Cond.fieldLink RX3 26 "WardenHouse$Policy" "limitSizes" "[I" ∈ wsX3_init := by decide +kernel
theorem m_X3_init_f29 : Cond.fieldLink RX3 29 "WardenHouse$Policy" "domainSets" "[I" ∈ wsX3_init := by decide +kernel
theorem m_X3_init_f32 : Cond.fieldLink RX3 32 "WardenHouse$Policy" "moduleDomains" "[I" ∈ wsX3_init := by decide +kernel
theorem m_X3_init_f35 : Cond.fieldLink RX3 35 "WardenHouse$Policy" "askings" "[LWardenHouse$Right;" ∈ wsX3_init := by decide +kernel
theorem m_X3_init_a3 : Cond.arrayClass .boolean ∈ wsX3_init := by decide +kernel
theorem m_X3_init_f38 : Cond.fieldLink RX3 38 "WardenHouse$Policy" "askingIndexed" "[Z" ∈ wsX3_init := by decide +kernel
theorem m_X3_init_f42 : Cond.fieldLink RX3 42 "WardenHouse$Policy" "askingHolders" "[I" ∈ wsX3_init := by decide +kernel
theorem m_X3_init_k45 : Cond.classLink RX3 45 RX5 ∈ wsX3_init := by decide +kernel
theorem m_X3_init_n5 : Cond.instantiable RX5 4 ∈ wsX3_init := by decide +kernel
theorem m_X3_init_z5 : Cond.initialized RX5 ∈ wsX3_init := by decide +kernel
set_option maxRecDepth 20000 in
theorem i_X3_init_X5 : ∀ w ∈ wsX50, w ∈ wsX3_init := by decide +kernel
theorem m_X3_init_l47 : Cond.methodLink RX3 47 yX5_init ∈ wsX3_init := by decide +kernel
theorem m_X3_init_j47 : Cond.instanceMethod yX5_init ∈ wsX3_init := by decide +kernel
theorem m_X3_init_f48 : Cond.fieldLink RX3 48 "WardenHouse$Policy" "goal" "LWardenHouse$Right;" ∈ wsX3_init := by decide +kernel
set_option maxHeartbeats 4000000 in
set_option maxRecDepth 100000 in
/-- Policy() -/
theorem k_Policy_init (l : Launch) (D : va_G) (cA : Nat → ClassId) (E : hp_N) (sz : Nat) (g : hp_M) (hAO : ∀ A U H, E A U H → va_AO "WardenHouse$Right" U) (h : Nat) (hh : g h = some (.inr (3, [.null, .null, .null, .null, .null, .null, .null, .null, .null, .null, .int 0, .int 0, .int 0, .int 0]))) : Met l yX3_init wsX3_init ({ frames := 4, cells := 395, slots := 2013, locals := 120 }) (hp_Pc D vwCl (hp_Tl cA) E sz g [.ref h]) (hp_Qv D vwCl (hp_Tl cA) sz g (fun u => hp_extX h g u ∧ ∃ a : Nat → Nat, u h = some (.inr (3, [.ref (a 0), .ref (a 1), .ref (a 2), .ref (a 3), .ref (a 4), .ref (a 5), .ref (a 6), .ref (a 7), .ref (a 8), .ref (a 9), .int 0, .int 0, .int 0, .int 0])) ∧ pl_full 2 4 8 (K_Right cA) cA g u (a 0) ∧ pl_full 2 4 160 (K_Right cA) cA g u (a 1) ∧ pl_full 2 4 24 (K_Right cA) cA g u (a 6))) 395 2013 (hp_A g sz) := by
  refine hp_ofW (cc := cX3_init) (maxL := 1) (ret := none) (by decide) rfl (Nat.le_of_ble_eq_true rfl) ?_
  intro pp ee ss mm bb mt cd ls cx hsz hw hl
  have hl : lv_has ls 1 [(0, .ref h)] := hl
  refine lv_aload_n cx.1 cx.2.1 dX3_init_0 rfl (lv_at hl 0 rfl) ?_
  refine W.objInit cx.1 cx.2.1 cx.2.2.2.2.1 (cx.2.2.2.2.2.1 _ m_X3_init_oi) (cx.2.2.2.2.2.1 _ m_X3_init_oj) (cx.2.2.2.2.2.1 _ m_X3_init_ok) rfl (by rw [cx.2.2.2.1]; exact hl.1) rfl dX3_init_1 (Nat.le_of_ble_eq_true rfl) (Nat.le_of_ble_eq_true rfl) ?_
  refine W.eq (g2 := F0 mm 4 ls []) rfl ?_
  refine lv_aload_n cx.1 cx.2.1 dX3_init_4 rfl (lv_at hl 0 rfl) ?_
  refine lv_bipush (v := 8) cx.1 cx.2.1 dX3_init_5 (by decide) ?_
  refine hp_callSr (As := [.int 8]) (rest := [.ref h]) cx hw (k_Policy_rightsOf l D cA E _ g hAO 8 8 (by decide) (by decide) (by decide)) (cwS 1 cx.2.2.2.2.2.1 gX3_init_X3_rightsOf rfl rfl rfl (by decide +kernel) ⟨Nat.le_of_ble_eq_true rfl, Nat.le_of_ble_eq_true rfl⟩) rfl hl.1 rfl (Nat.le_of_ble_eq_true rfl) dX3_init_7 ⟨Nat.le_of_ble_eq_true rfl, Nat.le_of_ble_eq_true rfl⟩ (fun r2 u1 H locs hp3 hw => ?_)
  obtain ⟨xu1, nr2, fullr2⟩ := hp3
  obtain ⟨rowr2, Pr2, fr2, _⟩ := id fullr2
  have f4 : u1 h = some (.inr (3, [.null, .null, .null, .null, .null, .null, .null, .null, .null, .null, .int 0, .int 0, .int 0, .int 0])) := xu1 _ _ hh
  refine hp_putF (C := RX3) (T := TX3) (N := 14) (ci := 3) (fs' := [.ref r2, .null, .null, .null, .null, .null, .null, .null, .null, .null, .int 0, .int 0, .int 0, .int 0]) cx hw i_X3_init_X3 tyX3_ok nmX3 rfl f4 0 (by decide) m_X3_init_f15 rfl rfl rfl rfl rfl (Nat.le_of_ble_eq_true rfl) rfl dX3_init_10 (fun g5 H locs eg5 hw => ?_)
  have f6 : g5 h = some (.inr (3, [.ref r2, .null, .null, .null, .null, .null, .null, .null, .null, .null, .int 0, .int 0, .int 0, .int 0])) := (by rw [eg5]; exact hp_up_self _ _ _)
  refine lv_aload_n cx.1 cx.2.1 dX3_init_13 rfl (lv_at hl 0 rfl) ?_
  refine lv_sipush (v := 160) cx.1 cx.2.1 dX3_init_14 (by decide) ?_
  refine hp_callSr (As := [.int 160]) (rest := [.ref h]) cx hw (k_Policy_rightsOf l D cA E _ g5 hAO 160 160 (by decide) (by decide) (by decide)) (cwS 1 cx.2.2.2.2.2.1 gX3_init_X3_rightsOf rfl rfl rfl (by decide +kernel) ⟨Nat.le_of_ble_eq_true rfl, Nat.le_of_ble_eq_true rfl⟩) rfl hl.1 rfl (Nat.le_of_ble_eq_true rfl) dX3_init_17 ⟨Nat.le_of_ble_eq_true rfl, Nat.le_of_ble_eq_true rfl⟩ (fun r8 u7 H locs hp9 hw => ?_)
  obtain ⟨xu7, nr8, fullr8⟩ := hp9
  obtain ⟨rowr8, Pr8, fr8, _⟩ := id fullr8
  have f10 : u7 h = some (.inr (3, [.ref r2, .null, .null, .null, .null, .null, .null, .null, .null, .null, .int 0, .int 0, .int 0, .int 0])) := xu7 _ _ f6
  refine hp_putF (C := RX3) (T := TX3) (N := 14) (ci := 3) (fs' := [.ref r2, .ref r8, .null, .null, .null, .null, .null, .null, .null, .null, .int 0, .int 0, .int 0, .int 0]) cx hw i_X3_init_X3 tyX3_ok nmX3 rfl f10 1 (by decide) m_X3_init_f19 rfl rfl rfl rfl rfl (Nat.le_of_ble_eq_true rfl) rfl dX3_init_20 (fun g11 H locs eg11 hw => ?_)
  have f12 : g11 h = some (.inr (3, [.ref r2, .ref r8, .null, .null, .null, .null, .null, .null, .null, .null, .int 0, .int 0, .int 0, .int 0])) := (by rw [eg11]; exact hp_up_self _ _ _)
  refine lv_aload_n cx.1 cx.2.1 dX3_init_23 rfl (lv_at hl 0 rfl) ?_
  refine lv_bipush (v := 8) cx.1 cx.2.1 dX3_init_24 (by decide) ?_
  refine hp_newa (atype := .int) (N' := 8) (a0 := (8, .inl (fun _ => 0))) cx hw m_X3_init_a1 1 (ty := .int) rfl rfl (fun _ => rfl) (by decide) (by decide) (by decide) (by exact Nat.le_of_ble_eq_true rfl) (by exact Nat.le_of_ble_eq_true rfl) dX3_init_26 (fun q13 g14 H nq13 eg14 hw => ?_)
  have f15 : g14 q13 = some (.inl (cA 1, 8, .inl (fun _ => 0))) := (by rw [eg14]; exact hp_up_self _ _ _)
  have f16 : g14 h = some (.inr (3, [.ref r2, .ref r8, .null, .null, .null, .null, .null, .null, .null, .null, .int 0, .int 0, .int 0, .int 0])) := (by rw [eg14]; exact (hp_up_ne _ _ (hp_neN f12 nq13)).trans f12)
  refine hp_putF (C := RX3) (T := TX3) (N := 14) (ci := 3) (fs' := [.ref r2, .ref r8, .ref q13, .null, .null, .null, .null, .null, .null, .null, .int 0, .int 0, .int 0, .int 0]) cx hw i_X3_init_X3 tyX3_ok nmX3 rfl f16 2 (by decide) m_X3_init_f22 rfl rfl rfl rfl rfl (Nat.le_of_ble_eq_true rfl) rfl dX3_init_28 (fun g17 H locs eg17 hw => ?_)
  have f18 : g17 h = some (.inr (3, [.ref r2, .ref r8, .ref q13, .null, .null, .null, .null, .null, .null, .null, .int 0, .int 0, .int 0, .int 0])) := (by rw [eg17]; exact hp_up_self _ _ _)
  refine lv_aload_n cx.1 cx.2.1 dX3_init_31 rfl (lv_at hl 0 rfl) ?_
  refine lv_bipush (v := 12) cx.1 cx.2.1 dX3_init_32 (by decide) ?_
  refine hp_newa (atype := .int) (N' := 12) (a0 := (12, .inl (fun _ => 0))) cx hw m_X3_init_a1 1 (ty := .int) rfl rfl (fun _ => rfl) (by decide) (by decide) (by decide) (by exact Nat.le_of_ble_eq_true rfl) (by exact Nat.le_of_ble_eq_true rfl) dX3_init_34 (fun q19 g20 H nq19 eg20 hw => ?_)
  have f21 : g20 q19 = some (.inl (cA 1, 12, .inl (fun _ => 0))) := (by rw [eg20]; exact hp_up_self _ _ _)
  have f22 : g20 h = some (.inr (3, [.ref r2, .ref r8, .ref q13, .null, .null, .null, .null, .null, .null, .null, .int 0, .int 0, .int 0, .int 0])) := (by rw [eg20]; exact (hp_up_ne _ _ (hp_neN f18 nq19)).trans f18)
  refine hp_putF (C := RX3) (T := TX3) (N := 14) (ci := 3) (fs' := [.ref r2, .ref r8, .ref q13, .ref q19, .null, .null, .null, .null, .null, .null, .int 0, .int 0, .int 0, .int 0]) cx hw i_X3_init_X3 tyX3_ok nmX3 rfl f22 3 (by decide) m_X3_init_f26 rfl rfl rfl rfl rfl (Nat.le_of_ble_eq_true rfl) rfl dX3_init_36 (fun g23 H locs eg23 hw => ?_)
  have f24 : g23 h = some (.inr (3, [.ref r2, .ref r8, .ref q13, .ref q19, .null, .null, .null, .null, .null, .null, .int 0, .int 0, .int 0, .int 0])) := (by rw [eg23]; exact hp_up_self _ _ _)
  refine lv_aload_n cx.1 cx.2.1 dX3_init_39 rfl (lv_at hl 0 rfl) ?_
  refine lv_bipush (v := 8) cx.1 cx.2.1 dX3_init_40 (by decide) ?_
  refine hp_newa (atype := .int) (N' := 8) (a0 := (8, .inl (fun _ => 0))) cx hw m_X3_init_a1 1 (ty := .int) rfl rfl (fun _ => rfl) (by decide) (by decide) (by decide) (by exact Nat.le_of_ble_eq_true rfl) (by exact Nat.le_of_ble_eq_true rfl) dX3_init_42 (fun q25 g26 H nq25 eg26 hw => ?_)
  have f27 : g26 q25 = some (.inl (cA 1, 8, .inl (fun _ => 0))) := (by rw [eg26]; exact hp_up_self _ _ _)
  have f28 : g26 h = some (.inr (3, [.ref r2, .ref r8, .ref q13, .ref q19, .null, .null, .null, .null, .null, .null, .int 0, .int 0, .int 0, .int 0])) := (by rw [eg26]; exact (hp_up_ne _ _ (hp_neN f24 nq25)).trans f24)
  refine hp_putF (C := RX3) (T := TX3) (N := 14) (ci := 3) (fs' := [.ref r2, .ref r8, .ref q13, .ref q19, .ref q25, .null, .null, .null, .null, .null, .int 0, .int 0, .int 0, .int 0]) cx hw i_X3_init_X3 tyX3_ok nmX3 rfl f28 4 (by decide) m_X3_init_f29 rfl rfl rfl rfl rfl (Nat.le_of_ble_eq_true rfl) rfl dX3_init_44 (fun g29 H locs eg29 hw => ?_)
  have f30 : g29 h = some (.inr (3, [.ref r2, .ref r8, .ref q13, .ref q19, .ref q25, .null, .null, .null, .null, .null, .int 0, .int 0, .int 0, .int 0])) := (by rw [eg29]; exact hp_up_self _ _ _)
  refine lv_aload_n cx.1 cx.2.1 dX3_init_47 rfl (lv_at hl 0 rfl) ?_
  refine lv_bipush (v := 8) cx.1 cx.2.1 dX3_init_48 (by decide) ?_
  refine hp_newa (atype := .int) (N' := 8) (a0 := (8, .inl (fun _ => 0))) cx hw m_X3_init_a1 1 (ty := .int) rfl rfl (fun _ => rfl) (by decide) (by decide) (by decide) (by exact Nat.le_of_ble_eq_true rfl) (by exact Nat.le_of_ble_eq_true rfl) dX3_init_50 (fun q31 g32 H nq31 eg32 hw => ?_)
  have f33 : g32 q31 = some (.inl (cA 1, 8, .inl (fun _ => 0))) := (by rw [eg32]; exact hp_up_self _ _ _)
  have f34 : g32 h = some (.inr (3, [.ref r2, .ref r8, .ref q13, .ref q19, .ref q25, .null, .null, .null, .null, .null, .int 0, .int 0, .int 0, .int 0])) := (by rw [eg32]; exact (hp_up_ne _ _ (hp_neN f30 nq31)).trans f30)
  refine hp_putF (C := RX3) (T := TX3) (N := 14) (ci := 3) (fs' := [.ref r2, .ref r8, .ref q13, .ref q19, .ref q25, .ref q31, .null, .null, .null, .null, .int 0, .int 0, .int 0, .int 0]) cx hw i_X3_init_X3 tyX3_ok nmX3 rfl f34 5 (by decide) m_X3_init_f32 rfl rfl rfl rfl rfl (Nat.le_of_ble_eq_true rfl) rfl dX3_init_52 (fun g35 H locs eg35 hw => ?_)
  have f36 : g35 h = some (.inr (3, [.ref r2, .ref r8, .ref q13, .ref q19, .ref q25, .ref q31, .null, .null, .null, .null, .int 0, .int 0, .int 0, .int 0])) := (by rw [eg35]; exact hp_up_self _ _ _)
  refine lv_aload_n cx.1 cx.2.1 dX3_init_55 rfl (lv_at hl 0 rfl) ?_
  refine lv_bipush (v := 24) cx.1 cx.2.1 dX3_init_56 (by decide) ?_
  refine hp_callSr (As := [.int 24]) (rest := [.ref h]) cx hw (k_Policy_rightsOf l D cA E _ g35 hAO 24 24 (by decide) (by decide) (by decide)) (cwS 1 cx.2.2.2.2.2.1 gX3_init_X3_rightsOf rfl rfl rfl (by decide +kernel) ⟨Nat.le_of_ble_eq_true rfl, Nat.le_of_ble_eq_true rfl⟩) rfl hl.1 rfl (Nat.le_of_ble_eq_true rfl) dX3_init_58 ⟨Nat.le_of_ble_eq_true rfl, Nat.le_of_ble_eq_true rfl⟩ (fun r38 u37 H locs hp39 hw => ?_)
  obtain ⟨xu37, nr38, fullr38⟩ := hp39
  obtain ⟨rowr38, Pr38, fr38, _⟩ := id fullr38
  have f40 : u37 h = some (.inr (3, [.ref r2, .ref r8, .ref q13, .ref q19, .ref q25, .ref q31, .null, .null, .null, .null, .int 0, .int 0, .int 0, .int 0])) := xu37 _ _ f36
  refine hp_putF (C := RX3) (T := TX3) (N := 14) (ci := 3) (fs' := [.ref r2, .ref r8, .ref q13, .ref q19, .ref q25, .ref q31, .ref r38, .null, .null, .null, .int 0, .int 0, .int 0, .int 0]) cx hw i_X3_init_X3 tyX3_ok nmX3 rfl f40 6 (by decide) m_X3_init_f35 rfl rfl rfl rfl rfl (Nat.le_of_ble_eq_true rfl) rfl dX3_init_61 (fun g41 H locs eg41 hw => ?_)
  have f42 : g41 h = some (.inr (3, [.ref r2, .ref r8, .ref q13, .ref q19, .ref q25, .ref q31, .ref r38, .null, .null, .null, .int 0, .int 0, .int 0, .int 0])) := (by rw [eg41]; exact hp_up_self _ _ _)
  refine lv_aload_n cx.1 cx.2.1 dX3_init_64 rfl (lv_at hl 0 rfl) ?_
  refine lv_bipush (v := 24) cx.1 cx.2.1 dX3_init_65 (by decide) ?_
  refine hp_newa (atype := .boolean) (N' := 24) (a0 := (24, .inl (fun _ => 0))) cx hw m_X3_init_a3 3 (ty := .boolean) rfl rfl (fun _ => rfl) (by decide) (by decide) (by decide) (by exact Nat.le_of_ble_eq_true rfl) (by exact Nat.le_of_ble_eq_true rfl) dX3_init_67 (fun q43 g44 H nq43 eg44 hw => ?_)
  have f45 : g44 q43 = some (.inl (cA 3, 24, .inl (fun _ => 0))) := (by rw [eg44]; exact hp_up_self _ _ _)
  have f46 : g44 h = some (.inr (3, [.ref r2, .ref r8, .ref q13, .ref q19, .ref q25, .ref q31, .ref r38, .null, .null, .null, .int 0, .int 0, .int 0, .int 0])) := (by rw [eg44]; exact (hp_up_ne _ _ (hp_neN f42 nq43)).trans f42)
  refine hp_putF (C := RX3) (T := TX3) (N := 14) (ci := 3) (fs' := [.ref r2, .ref r8, .ref q13, .ref q19, .ref q25, .ref q31, .ref r38, .ref q43, .null, .null, .int 0, .int 0, .int 0, .int 0]) cx hw i_X3_init_X3 tyX3_ok nmX3 rfl f46 7 (by decide) m_X3_init_f38 rfl rfl rfl rfl rfl (Nat.le_of_ble_eq_true rfl) rfl dX3_init_69 (fun g47 H locs eg47 hw => ?_)
  have f48 : g47 h = some (.inr (3, [.ref r2, .ref r8, .ref q13, .ref q19, .ref q25, .ref q31, .ref r38, .ref q43, .null, .null, .int 0, .int 0, .int 0, .int 0])) := (by rw [eg47]; exact hp_up_self _ _ _)
  refine lv_aload_n cx.1 cx.2.1 dX3_init_72 rfl (lv_at hl 0 rfl) ?_
  refine lv_bipush (v := 24) cx.1 cx.2.1 dX3_init_73 (by decide) ?_
  refine hp_newa (atype := .int) (N' := 24) (a0 := (24, .inl (fun _ => 0))) cx hw m_X3_init_a1 1 (ty := .int) rfl rfl (fun _ => rfl) (by decide) (by decide) (by decide) (by exact Nat.le_of_ble_eq_true rfl) (by exact Nat.le_of_ble_eq_true rfl) dX3_init_75 (fun q49 g50 H nq49 eg50 hw => ?_)
  have f51 : g50 q49 = some (.inl (cA 1, 24, .inl (fun _ => 0))) := (by rw [eg50]; exact hp_up_self _ _ _)
  have f52 : g50 h = some (.inr (3, [.ref r2, .ref r8, .ref q13, .ref q19, .ref q25, .ref q31, .ref r38, .ref q43, .null, .null, .int 0, .int 0, .int 0, .int 0])) := (by rw [eg50]; exact (hp_up_ne _ _ (hp_neN f48 nq49)).trans f48)
  refine hp_putF (C := RX3) (T := TX3) (N := 14) (ci := 3) (fs' := [.ref r2, .ref r8, .ref q13, .ref q19, .ref q25, .ref q31, .ref r38, .ref q43, .ref q49, .null, .int 0, .int 0, .int 0, .int 0]) cx hw i_X3_init_X3 tyX3_ok nmX3 rfl f52 8 (by decide) m_X3_init_f42 rfl rfl rfl rfl rfl (Nat.le_of_ble_eq_true rfl) rfl dX3_init_77 (fun g53 H locs eg53 hw => ?_)
  have f54 : g53 h = some (.inr (3, [.ref r2, .ref r8, .ref q13, .ref q19, .ref q25, .ref q31, .ref r38, .ref q43, .ref q49, .null, .int 0, .int 0, .int 0, .int 0])) := (by rw [eg53]; exact hp_up_self _ _ _)
  refine lv_aload_n cx.1 cx.2.1 dX3_init_80 rfl (lv_at hl 0 rfl) ?_
  refine hp_new (C := RX5) (T := TX5) (N := 4) (ci := 5) (fs := [.long 0, .null, .int 0, .int 0]) cx hw i_X3_init_X5 tyX5_ok rfl m_X3_init_k45 m_X3_init_n5 m_X3_init_z5 nwX5 (by exact Nat.le_of_ble_eq_true rfl) (by exact Nat.le_of_ble_eq_true rfl) dX3_init_81 (fun q55 g56 H nq55 eg56 hw => ?_)
  have f57 : g56 q55 = some (.inr (5, [.long 0, .null, .int 0, .int 0])) := (by rw [eg56]; exact hp_up_self _ _ _)
  refine lv_dup cx.1 cx.2.1 dX3_init_84 rfl ?_
  refine hp_callIv (As := []) (rest := [.ref q55, .ref h]) cx hw (k_Right_init l D cA E _ g56 q55 f57) (cwI 0 cx.2.2.2.2.2.1 gX3_init_X5_init rfl rfl rfl (cx.2.2.2.2.2.1 _ m_X3_init_z5) (cx.2.2.2.2.2.1 _ m_X3_init_l47) (cx.2.2.2.2.2.1 _ m_X3_init_j47) rfl (by decide +kernel) ⟨Nat.le_of_ble_eq_true rfl, Nat.le_of_ble_eq_true rfl⟩) rfl hl.1 rfl (Nat.le_of_ble_eq_true rfl) dX3_init_85 ⟨Nat.le_of_ble_eq_true rfl, Nat.le_of_ble_eq_true rfl⟩ (fun u58 H locs hp60 hw => ?_)
  have hmu58 : pl_made 2 (K_Right cA) q55 g56 u58 := hp60
  obtain ⟨p61, p610, p61i, p61n, p61j, p61x⟩ := hp60
  have f62 : u58 q55 = some (.inr (5, [.long 0, .ref (p61 1), .int 0, .int 0])) := by rw [← p610]; exact p61i 0 (by decide)
  have f63 : g56 h = some (.inr (3, [.ref r2, .ref r8, .ref q13, .ref q19, .ref q25, .ref q31, .ref r38, .ref q43, .ref q49, .null, .int 0, .int 0, .int 0, .int 0])) := (by rw [eg56]; exact (hp_up_ne _ _ (hp_neN f54 nq55)).trans f54)
  have f64 : u58 h = some (.inr (3, [.ref r2, .ref r8, .ref q13, .ref q19, .ref q25, .ref q31, .ref r38, .ref q43, .ref q49, .null, .int 0, .int 0, .int 0, .int 0])) := p61x _ _ (hp_neK f63 f57 (by decide)) f63
  refine hp_putF (C := RX3) (T := TX3) (N := 14) (ci := 3) (fs' := [.ref r2, .ref r8, .ref q13, .ref q19, .ref q25, .ref q31, .ref r38, .ref q43, .ref q49, .ref q55, .int 0, .int 0, .int 0, .int 0]) cx hw i_X3_init_X3 tyX3_ok nmX3 rfl f64 9 (by decide) m_X3_init_f48 rfl rfl rfl rfl rfl (Nat.le_of_ble_eq_true rfl) rfl dX3_init_88 (fun g65 H locs eg65 hw => ?_)
  have f66 : g65 h = some (.inr (3, [.ref r2, .ref r8, .ref q13, .ref q19, .ref q25, .ref q31, .ref r38, .ref q43, .ref q49, .ref q55, .int 0, .int 0, .int 0, .int 0])) := (by rw [eg65]; exact hp_up_self _ _ _)
  have hxt : hp_extX h g g65 := by
    intro b e hb hg
    have b_u1 := xu1 b e hg
    have b_g5 : g5 b = some e := by rw [eg5]; exact (hp_up_ne _ _ (hb)).trans b_u1
    have b_u7 := xu7 b e b_g5
    have b_g11 : g11 b = some e := by rw [eg11]; exact (hp_up_ne _ _ (hb)).trans b_u7
    have b_g14 : g14 b = some e := by rw [eg14]; exact (hp_up_ne _ _ (hp_neN b_g11 nq13)).trans b_g11
    have b_g17 : g17 b = some e := by rw [eg17]; exact (hp_up_ne _ _ (hb)).trans b_g14
    have b_g20 : g20 b = some e := by rw [eg20]; exact (hp_up_ne _ _ (hp_neN b_g17 nq19)).trans b_g17
    have b_g23 : g23 b = some e := by rw [eg23]; exact (hp_up_ne _ _ (hb)).trans b_g20
    have b_g26 : g26 b = some e := by rw [eg26]; exact (hp_up_ne _ _ (hp_neN b_g23 nq25)).trans b_g23
    have b_g29 : g29 b = some e := by rw [eg29]; exact (hp_up_ne _ _ (hb)).trans b_g26
    have b_g32 : g32 b = some e := by rw [eg32]; exact (hp_up_ne _ _ (hp_neN b_g29 nq31)).trans b_g29
    have b_g35 : g35 b = some e := by rw [eg35]; exact (hp_up_ne _ _ (hb)).trans b_g32
    have b_u37 := xu37 b e b_g35
    have b_g41 : g41 b = some e := by rw [eg41]; exact (hp_up_ne _ _ (hb)).trans b_u37
    have b_g44 : g44 b = some e := by rw [eg44]; exact (hp_up_ne _ _ (hp_neN b_g41 nq43)).trans b_g41
    have b_g47 : g47 b = some e := by rw [eg47]; exact (hp_up_ne _ _ (hb)).trans b_g44
    have b_g50 : g50 b = some e := by rw [eg50]; exact (hp_up_ne _ _ (hp_neN b_g47 nq49)).trans b_g47
    have b_g53 : g53 b = some e := by rw [eg53]; exact (hp_up_ne _ _ (hb)).trans b_g50
    have b_g56 : g56 b = some e := by rw [eg56]; exact (hp_up_ne _ _ (hp_neN b_g53 nq55)).trans b_g53
    have b_u58 := p61x b e (hp_neN hg (hp_ext_none xu1 (hp_up_none eg5 (hp_ext_none xu7 (hp_up_none eg11 (hp_up_none eg14 (hp_up_none eg17 (hp_up_none eg20 (hp_up_none eg23 (hp_up_none eg26 (hp_up_none eg29 (hp_up_none eg32 (hp_up_none eg35 (hp_ext_none xu37 (hp_up_none eg41 (hp_up_none eg44 (hp_up_none eg47 (hp_up_none eg50 (hp_up_none eg53 (nq55)))))))))))))))))))) b_g56
    have b_g65 : g65 b = some e := by rw [eg65]; exact (hp_up_ne _ _ (hb)).trans b_u58
    exact b_g65
  have yr2 : hp_extX h u1 g65 := by
    intro b e hb hg
    have b_g5 : g5 b = some e := by rw [eg5]; exact (hp_up_ne _ _ (hb)).trans hg
    have b_u7 := xu7 b e b_g5
    have b_g11 : g11 b = some e := by rw [eg11]; exact (hp_up_ne _ _ (hb)).trans b_u7
    have b_g14 : g14 b = some e := by rw [eg14]; exact (hp_up_ne _ _ (hp_neN b_g11 nq13)).trans b_g11
    have b_g17 : g17 b = some e := by rw [eg17]; exact (hp_up_ne _ _ (hb)).trans b_g14
    have b_g20 : g20 b = some e := by rw [eg20]; exact (hp_up_ne _ _ (hp_neN b_g17 nq19)).trans b_g17
    have b_g23 : g23 b = some e := by rw [eg23]; exact (hp_up_ne _ _ (hb)).trans b_g20
    have b_g26 : g26 b = some e := by rw [eg26]; exact (hp_up_ne _ _ (hp_neN b_g23 nq25)).trans b_g23
    have b_g29 : g29 b = some e := by rw [eg29]; exact (hp_up_ne _ _ (hb)).trans b_g26
    have b_g32 : g32 b = some e := by rw [eg32]; exact (hp_up_ne _ _ (hp_neN b_g29 nq31)).trans b_g29
    have b_g35 : g35 b = some e := by rw [eg35]; exact (hp_up_ne _ _ (hb)).trans b_g32
    have b_u37 := xu37 b e b_g35
    have b_g41 : g41 b = some e := by rw [eg41]; exact (hp_up_ne _ _ (hb)).trans b_u37
    have b_g44 : g44 b = some e := by rw [eg44]; exact (hp_up_ne _ _ (hp_neN b_g41 nq43)).trans b_g41
    have b_g47 : g47 b = some e := by rw [eg47]; exact (hp_up_ne _ _ (hb)).trans b_g44
    have b_g50 : g50 b = some e := by rw [eg50]; exact (hp_up_ne _ _ (hp_neN b_g47 nq49)).trans b_g47
    have b_g53 : g53 b = some e := by rw [eg53]; exact (hp_up_ne _ _ (hb)).trans b_g50
    have b_g56 : g56 b = some e := by rw [eg56]; exact (hp_up_ne _ _ (hp_neN b_g53 nq55)).trans b_g53
    have b_u58 := p61x b e (hp_neN hg (hp_up_none eg5 (hp_ext_none xu7 (hp_up_none eg11 (hp_up_none eg14 (hp_up_none eg17 (hp_up_none eg20 (hp_up_none eg23 (hp_up_none eg26 (hp_up_none eg29 (hp_up_none eg32 (hp_up_none eg35 (hp_ext_none xu37 (hp_up_none eg41 (hp_up_none eg44 (hp_up_none eg47 (hp_up_none eg50 (hp_up_none eg53 (nq55))))))))))))))))))) b_g56
    have b_g65 : g65 b = some e := by rw [eg65]; exact (hp_up_ne _ _ (hb)).trans b_u58
    exact b_g65
  have Fr2 := (fullr2.extX (e := _) (hh) nr2 yr2).down (fun b hb => hb)
  have yr8 : hp_extX h u7 g65 := by
    intro b e hb hg
    have b_g11 : g11 b = some e := by rw [eg11]; exact (hp_up_ne _ _ (hb)).trans hg
    have b_g14 : g14 b = some e := by rw [eg14]; exact (hp_up_ne _ _ (hp_neN b_g11 nq13)).trans b_g11
    have b_g17 : g17 b = some e := by rw [eg17]; exact (hp_up_ne _ _ (hb)).trans b_g14
    have b_g20 : g20 b = some e := by rw [eg20]; exact (hp_up_ne _ _ (hp_neN b_g17 nq19)).trans b_g17
    have b_g23 : g23 b = some e := by rw [eg23]; exact (hp_up_ne _ _ (hb)).trans b_g20
    have b_g26 : g26 b = some e := by rw [eg26]; exact (hp_up_ne _ _ (hp_neN b_g23 nq25)).trans b_g23
    have b_g29 : g29 b = some e := by rw [eg29]; exact (hp_up_ne _ _ (hb)).trans b_g26
    have b_g32 : g32 b = some e := by rw [eg32]; exact (hp_up_ne _ _ (hp_neN b_g29 nq31)).trans b_g29
    have b_g35 : g35 b = some e := by rw [eg35]; exact (hp_up_ne _ _ (hb)).trans b_g32
    have b_u37 := xu37 b e b_g35
    have b_g41 : g41 b = some e := by rw [eg41]; exact (hp_up_ne _ _ (hb)).trans b_u37
    have b_g44 : g44 b = some e := by rw [eg44]; exact (hp_up_ne _ _ (hp_neN b_g41 nq43)).trans b_g41
    have b_g47 : g47 b = some e := by rw [eg47]; exact (hp_up_ne _ _ (hb)).trans b_g44
    have b_g50 : g50 b = some e := by rw [eg50]; exact (hp_up_ne _ _ (hp_neN b_g47 nq49)).trans b_g47
    have b_g53 : g53 b = some e := by rw [eg53]; exact (hp_up_ne _ _ (hb)).trans b_g50
    have b_g56 : g56 b = some e := by rw [eg56]; exact (hp_up_ne _ _ (hp_neN b_g53 nq55)).trans b_g53
    have b_u58 := p61x b e (hp_neN hg (hp_up_none eg11 (hp_up_none eg14 (hp_up_none eg17 (hp_up_none eg20 (hp_up_none eg23 (hp_up_none eg26 (hp_up_none eg29 (hp_up_none eg32 (hp_up_none eg35 (hp_ext_none xu37 (hp_up_none eg41 (hp_up_none eg44 (hp_up_none eg47 (hp_up_none eg50 (hp_up_none eg53 (nq55))))))))))))))))) b_g56
    have b_g65 : g65 b = some e := by rw [eg65]; exact (hp_up_ne _ _ (hb)).trans b_u58
    exact b_g65
  have Fr8 := (fullr8.extX (e := _) (f6) nr8 yr8).down (fun b hb => hp_ext_none xu1 (hp_up_none eg5 (hb)))
  have yr38 : hp_extX h u37 g65 := by
    intro b e hb hg
    have b_g41 : g41 b = some e := by rw [eg41]; exact (hp_up_ne _ _ (hb)).trans hg
    have b_g44 : g44 b = some e := by rw [eg44]; exact (hp_up_ne _ _ (hp_neN b_g41 nq43)).trans b_g41
    have b_g47 : g47 b = some e := by rw [eg47]; exact (hp_up_ne _ _ (hb)).trans b_g44
    have b_g50 : g50 b = some e := by rw [eg50]; exact (hp_up_ne _ _ (hp_neN b_g47 nq49)).trans b_g47
    have b_g53 : g53 b = some e := by rw [eg53]; exact (hp_up_ne _ _ (hb)).trans b_g50
    have b_g56 : g56 b = some e := by rw [eg56]; exact (hp_up_ne _ _ (hp_neN b_g53 nq55)).trans b_g53
    have b_u58 := p61x b e (hp_neN hg (hp_up_none eg41 (hp_up_none eg44 (hp_up_none eg47 (hp_up_none eg50 (hp_up_none eg53 (nq55))))))) b_g56
    have b_g65 : g65 b = some e := by rw [eg65]; exact (hp_up_ne _ _ (hb)).trans b_u58
    exact b_g65
  have Fr38 := (fullr38.extX (e := _) (f36) nr38 yr38).down (fun b hb => hp_ext_none xu1 (hp_up_none eg5 (hp_ext_none xu7 (hp_up_none eg11 (hp_up_none eg14 (hp_up_none eg17 (hp_up_none eg20 (hp_up_none eg23 (hp_up_none eg26 (hp_up_none eg29 (hp_up_none eg32 (hp_up_none eg35 (hb)))))))))))))
  exact hp_vret cx hw (⟨hxt, (fun k => match k with | 0 => r2 | 1 => r8 | 2 => q13 | 3 => q19 | 4 => q25 | 5 => q31 | 6 => r38 | 7 => q43 | 8 => q49 | 9 => q55 | _ => 0), f66, ⟨Fr2, Fr8, Fr38⟩⟩) dX3_init_91
