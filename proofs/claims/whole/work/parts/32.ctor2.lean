theorem m_X3_rightsOf_k45 : Cond.classLink RX3 45 RX5 ∈ wsX3_rightsOf := by decide +kernel
theorem m_X3_rightsOf_n5 : Cond.instantiable RX5 4 ∈ wsX3_rightsOf := by decide +kernel
theorem m_X3_rightsOf_z5 : Cond.initialized RX5 ∈ wsX3_rightsOf := by decide +kernel
set_option maxRecDepth 20000 in
theorem i_X3_rightsOf_X5 : ∀ w ∈ wsX50, w ∈ wsX3_rightsOf := by decide +kernel
theorem m_X3_rightsOf_l47 : Cond.methodLink RX3 47 yX5_init ∈ wsX3_rightsOf := by decide +kernel
theorem m_X3_rightsOf_j47 : Cond.instanceMethod yX5_init ∈ wsX3_rightsOf := by decide +kernel
set_option maxHeartbeats 4000000 in
set_option maxRecDepth 100000 in
/-- rightsOf(n) -/
theorem k_Policy_rightsOf (l : Launch) (D : va_G) (cA : Nat → ClassId) (E : hp_N) (sz : Nat) (g : hp_M) (hAO : ∀ A U H, E A U H → va_AO "WardenHouse$Right" U) (n : Int32) (N : Nat) (hp : 0 < n) (hN : n = nI N) (hb : N ≤ 4096) : Met l yX3_rightsOf wsX3_rightsOf ({ frames := 2, cells := 1 + 2 * N, slots := N + 9 * N, locals := 40 }) (hp_Pc D vwCl (hp_Tl cA) E sz g [.int n]) (hp_Qr D vwCl (hp_Tl cA) sz g (fun a u => hp_ext g u ∧ g a = none ∧ pl_full 2 4 N (K_Right cA) cA g u a)) (1 + 2 * N) (N + 9 * N) (hp_A g sz) := by
  refine hp_ofW (cc := cX3_rightsOf) (maxL := 3) (ret := (some (.array (.object "WardenHouse$Right")))) (by decide) rfl (Nat.le_of_ble_eq_true rfl) ?_
  intro pp ee ss mm bb mt cd ls cx hsz hw hl
  have hl : lv_has ls 3 [(0, .int n)] := hl
  refine lv_iload_n cx.1 cx.2.1 dX3_rightsOf_0 rfl (lv_at hl 0 rfl) ?_
  refine lv_if_le (tgt := 8) cx.1 cx.2.1 dX3_rightsOf_1 (by decide) (fun c1_1 => ?_) (fun c1_1 => ?_)
  · exact absurd c1_1 (Int32.not_le.mpr hp)
  refine lv_iload_n cx.1 cx.2.1 dX3_rightsOf_4 rfl (lv_at hl 0 rfl) ?_
  refine lv_goto (tgt := 9) cx.1 cx.2.1 dX3_rightsOf_5 (by decide) ?_
  refine hp_newq (N' := N) cx hw m_X3_rightsOf_k45 (hAO _ _ _ hw.2.2.2.2.2) 4 rfl (Int32.not_lt.mpr (Int32.le_of_lt hp)) (by rw [hN]; exact nI_clamp (by omega)) (by omega) (by (try dsimp only); omega) (by (try dsimp only); omega) dX3_rightsOf_9 (fun q2 g3 H nq2 eg3 hw => ?_)
  have f4 : g3 q2 = some (.inl (cA 4, N, .inr (.inr (.inr (.inr (fun _ => none)))))) := (by rw [eg3]; exact hp_up_self _ _ _)
  refine lv_astore_n (lv' := [(1, .ref q2), (0, .int n)]) cx.1 cx.2.1 dX3_rightsOf_12 rfl hl (by decide) rfl (fun ls hl => ?_)
  refine lv_iconst (v := 0) cx.1 cx.2.1 dX3_rightsOf_13 (by decide) ?_
  refine lv_istore_n (lv' := [(2, .int 0), (1, .ref q2), (0, .int n)]) cx.1 cx.2.1 dX3_rightsOf_14 rfl hl (by decide) rfl (fun ls hl => ?_)
  have loop : ∀ (j i : Nat) (gi : hp_M) (H : Heap) (locs : List Loc) (ls : Array Slot), i + j = N → pl_inv 2 4 N (K_Right cA) cA g3 q2 i gi → hp_w D vwCl (hp_Tl cA) E (hp_A g sz) ss H locs gi → lv_has ls 3 [(2, .int (nI i)), (1, .ref q2), (0, .int n)] → W pp l ee ({ frames := 2, cells := 1 + 2 * N, slots := N + 9 * N, locals := 40 }) ss mm [.int n].toArray bb mt cd H locs (1 + 2 * i) (N + 9 * i) (MQ bb (hp_Qr D vwCl (hp_Tl cA) sz g (fun a u => hp_ext g u ∧ g a = none ∧ pl_full 2 4 N (K_Right cA) cA g u a)) [.int n].toArray ss (1 + 2 * N) (N + 9 * N) (hp_A g sz)) (F0 mm 15 ls []) := by
    intro j
    induction j with
    | zero =>
      intro i gi H locs ls hij hinv hw hl
      obtain ⟨row, P, h1, h2, h3, h4, h5⟩ := hinv
      have hi : i = N := by omega
      refine lv_iload_n cx.1 cx.2.1 dX3_rightsOf_15 rfl (lv_at hl 0 rfl) ?_
      refine lv_aload_n cx.1 cx.2.1 dX3_rightsOf_16 rfl (lv_at hl 1 rfl) ?_
      refine hp_alen (v := (nI N)) cx hw 4 h1 rfl rfl dX3_rightsOf_17 ?_
      refine lv_icmp_ge (tgt := 37) cx.1 cx.2.1 dX3_rightsOf_18 (by decide) (fun c18_5 => ?_) (fun c18_5 => ?_)
      rotate_left
      · exact absurd (by rw [hi]; exact Int32.le_refl _) c18_5
      have nq : g q2 = none := nq2
      have hxg : hp_ext g gi := fun b e hg => h4 b e (hp_neN hg nq) (hp_ext.new nq eg3 b e hg)
      refine W.widen (k := 1 + 2 * N) (n := N + 9 * N) (by omega) (by omega) ?_
      refine lv_aload_n cx.1 cx.2.1 dX3_rightsOf_37 rfl (lv_at hl 1 rfl) ?_
      exact hp_aret cx hw (⟨hxg, nq, row, P, h1, by rw [← hi]; exact h2, by rw [← hi]; exact h3, fun a b ha hb => hp_up_none eg3 (h5 a b (by omega) hb)⟩) (Or.inr ⟨_, rfl⟩) dX3_rightsOf_38
    | succ j ih =>
      intro i gi H locs ls hij hinv hw hl
      obtain ⟨row, P, h1, h2, h3, h4, h5⟩ := hinv
      have hlt : i < N := by omega
      refine lv_iload_n cx.1 cx.2.1 dX3_rightsOf_15 rfl (lv_at hl 0 rfl) ?_
      refine lv_aload_n cx.1 cx.2.1 dX3_rightsOf_16 rfl (lv_at hl 1 rfl) ?_
      refine hp_alen (v := (nI N)) cx hw 4 h1 rfl rfl dX3_rightsOf_17 ?_
      refine lv_icmp_ge (tgt := 37) cx.1 cx.2.1 dX3_rightsOf_18 (by decide) (fun c18_6 => ?_) (fun c18_6 => ?_)
      · exact absurd c18_6 (nI_ge hlt (by omega))
      refine lv_aload_n cx.1 cx.2.1 dX3_rightsOf_21 rfl (lv_at hl 1 rfl) ?_
      refine lv_iload_n cx.1 cx.2.1 dX3_rightsOf_22 rfl (lv_at hl 0 rfl) ?_
      refine hp_new (C := RX5) (T := TX5) (N := 4) (ci := 5) (fs := [.long 0, .null, .int 0, .int 0]) cx hw i_X3_rightsOf_X5 tyX5_ok rfl m_X3_rightsOf_k45 m_X3_rightsOf_n5 m_X3_rightsOf_z5 nwX5 (by (try dsimp only); omega) (by (try dsimp only); omega) dX3_rightsOf_23 (fun q7 g8 H nq7 eg8 hw => ?_)
      have f9 : g8 q7 = some (.inr (5, [.long 0, .null, .int 0, .int 0])) := (by rw [eg8]; exact hp_up_self _ _ _)
      refine lv_dup cx.1 cx.2.1 dX3_rightsOf_26 rfl ?_
      refine hp_callIv (As := []) (rest := [.ref q7, .int (nI i), .ref q2]) cx hw (k_Right_init l D cA E H.size g8 q7 f9) (cwI 0 cx.2.2.2.2.2.1 gX3_rightsOf_X5_init rfl rfl rfl (cx.2.2.2.2.2.1 _ m_X3_rightsOf_z5) (cx.2.2.2.2.2.1 _ m_X3_rightsOf_l47) (cx.2.2.2.2.2.1 _ m_X3_rightsOf_j47) rfl (by decide +kernel) ⟨Nat.le_of_ble_eq_true rfl, Nat.le_of_ble_eq_true rfl⟩) rfl hl.1 rfl (Nat.le_of_ble_eq_true rfl) dX3_rightsOf_27 ⟨by (try dsimp only); omega, by (try dsimp only); omega⟩ (fun u10 H locs hp12 hw => ?_)
      have hmu10 : pl_made 2 (K_Right cA) q7 g8 u10 := hp12
      obtain ⟨p13, p130, p13i, p13n, p13j, p13x⟩ := hp12
      have f14 : u10 q7 = some (.inr (5, [.long 0, .ref (p13 1), .int 0, .int 0])) := by rw [← p130]; exact p13i 0 (by decide)
      have f15 : g8 q2 = some (.inl (cA 4, N, .inr (.inr (.inr (.inr row))))) := (by rw [eg8]; exact (hp_up_ne _ _ (hp_neN h1 nq7)).trans h1)
      have f16 : u10 q2 = some (.inl (cA 4, N, .inr (.inr (.inr (.inr row))))) := p13x _ _ (hp_neAO f15 f9) f15
      refine hp_aast (r := (RX5, TX5, 4)) cx hw 4 f16 rfl f14 rfl (vp_in_nI hlt (by omega)) dX3_rightsOf_30 (fun g17 H locs eg17 hw => ?_)
      have f18 : g17 q2 = some (.inl (cA 4, N, .inr (.inr (.inr (.inr (va_up row (nI i).toNatClampNeg (some q7))))))) := (by rw [eg17]; exact hp_up_self _ _ _)
      refine lv_iinc (v := (nI (i + 1))) (lv' := [(2, .int (nI (i + 1))), (1, .ref q2), (0, .int n)]) cx.1 cx.2.1 dX3_rightsOf_31 hl (k := 0) rfl (nI_1 i) (by decide) rfl (fun ls hl => ?_)
      refine lv_goto (tgt := 15) cx.1 cx.2.1 dX3_rightsOf_34 (by decide) ?_
      refine W.widen (k := 1 + 2 * (i + 1)) (n := N + 9 * (i + 1)) (by omega) (by omega) ?_
      exact ih (i + 1) g17 H locs ls (by omega) (pl_inv.step h1 h2 h3 h4 h5 nq7 eg8 hmu10 (by rw [nI_clamp (by omega)]) eg17 (K_Right_ne cA) (by decide)) hw (lv_sub hl [0, 1, 2] rfl)
  refine W.widen (k := 1 + 2 * 0) (n := N + 9 * 0) (by omega) (by omega) ?_
  exact loop N 0 g3 _ _ _ (by omega) (pl_inv.start f4) hw (lv_sub hl [0, 1, 2] rfl)
