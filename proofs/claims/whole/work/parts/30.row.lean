theorem m_X6_init_oi : Cond.methodLink RX6 1 objectInit ∈ wsX6_init := by decide +kernel
theorem m_X6_init_oj : Cond.instanceMethod objectInit ∈ wsX6_init := by decide +kernel
theorem m_X6_init_ok : Cond.code objectInit ⟨#[0xb1]⟩ 1 none ∈ wsX6_init := by decide +kernel
theorem m_X6_init_a2 : Cond.arrayClass .long ∈ wsX6_init := by decide +kernel
theorem m_X6_init_f7 : Cond.fieldLink RX6 7 "WardenHouse$Row" "cells" "[J" ∈ wsX6_init := by decide +kernel
set_option maxRecDepth 20000 in
theorem i_X6_init_X6 : ∀ w ∈ wsX60, w ∈ wsX6_init := by decide +kernel
set_option maxHeartbeats 4000000 in
set_option maxRecDepth 100000 in
/-- Row(n): a new row of n places, its size as it was -/
theorem k_Row_init (l : Launch) (D : va_G) (cA : Nat → ClassId) (E : hp_N) (sz : Nat) (g : hp_M) (h : Nat) (z n : Int32) (N : Nat) (hh : g h = some (.inr (6, [.null, .int z]))) (hp : 0 < n) (hN : n.toNatClampNeg = N) (hb : N ≤ 65536) : Met l yX6_init wsX6_init ({ frames := 1, cells := 1, slots := N, locals := 12 }) (hp_Pc D vwCl (hp_Tl cA) E sz g [.ref h, .int n]) (hp_Qv D vwCl (hp_Tl cA) sz g (fun u => ∃ (c : Nat) (g1 : hp_M), g c = none ∧ g1 = hp_up g c (.inl (cA 2, N, .inr (.inl (fun _ => 0)))) ∧ u = hp_up g1 h (.inr (6, [.ref c, .int z])))) 1 N (hp_A g sz) := by
  refine hp_ofW (cc := cX6_init) (maxL := 2) (ret := none) (by decide) rfl (Nat.le_of_ble_eq_true rfl) ?_
  intro pp ee ss mm bb mt cd ls cx hsz hw hl
  have hl : lv_has ls 2 [(0, .ref h), (1, .int n)] := hl
  refine lv_aload_n cx.1 cx.2.1 dX6_init_0 rfl (lv_at hl 0 rfl) ?_
  refine W.objInit cx.1 cx.2.1 cx.2.2.2.2.1 (cx.2.2.2.2.2.1 _ m_X6_init_oi) (cx.2.2.2.2.2.1 _ m_X6_init_oj) (cx.2.2.2.2.2.1 _ m_X6_init_ok) rfl (by rw [cx.2.2.2.1]; exact hl.1) rfl dX6_init_1 (Nat.le_of_ble_eq_true rfl) (Nat.le_of_ble_eq_true rfl) ?_
  refine W.eq (g2 := F0 mm 4 ls []) rfl ?_
  refine lv_aload_n cx.1 cx.2.1 dX6_init_4 rfl (lv_at hl 0 rfl) ?_
  refine lv_iload_n cx.1 cx.2.1 dX6_init_5 rfl (lv_at hl 1 rfl) ?_
  refine lv_if_le (tgt := 13) cx.1 cx.2.1 dX6_init_6 (by decide) (fun c6_1 => ?_) (fun c6_1 => ?_)
  · exact absurd c6_1 (Int32.not_le.mpr hp)
  refine lv_iload_n cx.1 cx.2.1 dX6_init_9 rfl (lv_at hl 1 rfl) ?_
  refine lv_goto (tgt := 14) cx.1 cx.2.1 dX6_init_10 (by decide) ?_
  refine hp_newa (atype := .long) (N' := N) (a0 := (N, .inr (.inl (fun _ => 0)))) cx hw m_X6_init_a2 2 (ty := .long) rfl rfl (fun _ => rfl) (Int32.not_lt.mpr (Int32.le_of_lt hp)) hN (by show N * 8 ≤ 536870912; omega) (by first | exact Nat.le_of_ble_eq_true rfl | exact Nat.le_of_eq (Nat.zero_add _)) (by first | exact Nat.le_of_ble_eq_true rfl | exact Nat.le_of_eq (Nat.zero_add _)) dX6_init_14 (fun q2 g3 H nq2 eg3 hw => ?_)
  have f4 : g3 q2 = some (.inl (cA 2, N, .inr (.inl (fun _ => 0)))) := (by rw [eg3]; exact hp_up_self _ _ _)
  have f5 : g3 h = some (.inr (6, [.null, .int z])) := (by rw [eg3]; exact (hp_up_ne _ _ (hp_neN hh nq2)).trans hh)
  refine hp_put (C := RX6) (T := TX6) (N := 2) (ci := 6) (fs' := [.ref q2, .int z]) cx hw i_X6_init_X6 tyX6_ok nmX6 rfl f5 0 (by decide) m_X6_init_f7 rfl  rfl rfl (Nat.le_of_ble_eq_true rfl) rfl dX6_init_16 (fun g6 H locs eg6 hw => ?_)
  have f7 : g6 h = some (.inr (6, [.ref q2, .int z])) := (by rw [eg6]; exact hp_up_self _ _ _)
  exact hp_vret cx hw (⟨q2, g3, nq2, eg3, eg6⟩) dX6_init_19

theorem m_X6_at_f13 : Cond.fieldLink RX6 13 "WardenHouse$Row" "size" "I" ∈ wsX6_at := by decide +kernel
set_option maxRecDepth 20000 in
theorem i_X6_at_X6 : ∀ w ∈ wsX60, w ∈ wsX6_at := by decide +kernel
theorem m_X6_at_f7 : Cond.fieldLink RX6 7 "WardenHouse$Row" "cells" "[J" ∈ wsX6_at := by decide +kernel
set_option maxHeartbeats 4000000 in
set_option maxRecDepth 100000 in
/-- Row.at(i) -/
theorem k_Row_at (l : Launch) (D : va_G) (cA : Nat → ClassId) (E : hp_N) (sz : Nat) (g : hp_M) (h c : Nat) (n : Int32) (N : Nat) (f : Nat → Int64) (hh : g h = some (.inr (6, [.ref c, .int n]))) (hc : g c = some (.inl (cA 2, N, .inr (.inl f)))) (hN : n.toInt ≤ (N : Int)) (i : Int32) : Met l yX6_at wsX6_at ({ frames := 0, cells := 0, slots := 0, locals := 0 }) (hp_Pc D vwCl (hp_Tl cA) E sz g [.ref h, .int i]) (hp_Qi D vwCl (hp_Tl cA) sz g (fun r u => u = g ∧ r = (rowAt n f i).toInt32)) 0 0 (hp_A g sz) := by
  refine hp_ofW (cc := cX6_at) (maxL := 2) (ret := (some .int)) (by decide) rfl (Nat.le_of_ble_eq_true rfl) ?_
  intro pp ee ss mm bb mt cd ls cx hsz hw hl
  have hl : lv_has ls 2 [(0, .ref h), (1, .int i)] := hl
  refine lv_iload_n cx.1 cx.2.1 dX6_at_0 rfl (lv_at hl 1 rfl) ?_
  refine lv_if_lt (tgt := 22) cx.1 cx.2.1 dX6_at_1 (by decide) (fun c1_1 => ?_) (fun c1_1 => ?_)
  · skip
    refine lv_iconst (v := 0) cx.1 cx.2.1 dX6_at_22 (by decide) ?_
    exact hp_iret cx hw (⟨rfl, by rw [rowAt_lo c1_1]; rfl⟩) dX6_at_23
  · skip
    refine lv_iload_n cx.1 cx.2.1 dX6_at_4 rfl (lv_at hl 1 rfl) ?_
    refine lv_aload_n cx.1 cx.2.1 dX6_at_5 rfl (lv_at hl 0 rfl) ?_
    refine hp_get (C := RX6) (T := TX6) (N := 2) (ci := 6) cx hw i_X6_at_X6 rfl hh 1 (by decide) m_X6_at_f13 (v := .int n) rfl dX6_at_6 ?_
    refine lv_icmp_ge (tgt := 22) cx.1 cx.2.1 dX6_at_9 (by decide) (fun c9_2 => ?_) (fun c9_2 => ?_)
    · skip
      refine lv_iconst (v := 0) cx.1 cx.2.1 dX6_at_22 (by decide) ?_
      exact hp_iret cx hw (⟨rfl, by rw [rowAt_hi c9_2]; rfl⟩) dX6_at_23
    · skip
      refine lv_aload_n cx.1 cx.2.1 dX6_at_12 rfl (lv_at hl 0 rfl) ?_
      refine hp_get (C := RX6) (T := TX6) (N := 2) (ci := 6) cx hw i_X6_at_X6 rfl hh 0 (by decide) m_X6_at_f7 (v := .ref c) rfl dX6_at_13 ?_
      refine lv_iload_n cx.1 cx.2.1 dX6_at_16 rfl (lv_at hl 1 rfl) ?_
      refine hp_lald cx hw 2 hc rfl (row_in c1_1 (Int32.not_le.mp c9_2) hN) dX6_at_17 ?_
      refine lv_l2i (v := ((f i.toNatClampNeg).toInt32)) cx.1 cx.2.1 dX6_at_18 rfl ?_
      refine lv_goto (tgt := 23) cx.1 cx.2.1 dX6_at_19 (by decide) ?_
      exact hp_iret cx hw (⟨rfl, by rw [rowAt_in c1_1 (Int32.not_le.mp c9_2)]⟩) dX6_at_23

theorem m_X6_get_f13 : Cond.fieldLink RX6 13 "WardenHouse$Row" "size" "I" ∈ wsX6_get := by decide +kernel
set_option maxRecDepth 20000 in
theorem i_X6_get_X6 : ∀ w ∈ wsX60, w ∈ wsX6_get := by decide +kernel
theorem m_X6_get_f7 : Cond.fieldLink RX6 7 "WardenHouse$Row" "cells" "[J" ∈ wsX6_get := by decide +kernel
set_option maxHeartbeats 4000000 in
set_option maxRecDepth 100000 in
/-- Row.get(i) -/
theorem k_Row_get (l : Launch) (D : va_G) (cA : Nat → ClassId) (E : hp_N) (sz : Nat) (g : hp_M) (h c : Nat) (n : Int32) (N : Nat) (f : Nat → Int64) (hh : g h = some (.inr (6, [.ref c, .int n]))) (hc : g c = some (.inl (cA 2, N, .inr (.inl f)))) (hN : n.toInt ≤ (N : Int)) (i : Int32) : Met l yX6_get wsX6_get ({ frames := 0, cells := 0, slots := 0, locals := 0 }) (hp_Pc D vwCl (hp_Tl cA) E sz g [.ref h, .int i]) (hp_Ql D vwCl (hp_Tl cA) sz g (fun r u => u = g ∧ r = rowAt n f i)) 0 0 (hp_A g sz) := by
  refine hp_ofW (cc := cX6_get) (maxL := 2) (ret := (some .long)) (by decide) rfl (Nat.le_of_ble_eq_true rfl) ?_
  intro pp ee ss mm bb mt cd ls cx hsz hw hl
  have hl : lv_has ls 2 [(0, .ref h), (1, .int i)] := hl
  refine lv_iload_n cx.1 cx.2.1 dX6_get_0 rfl (lv_at hl 1 rfl) ?_
  refine lv_if_lt (tgt := 21) cx.1 cx.2.1 dX6_get_1 (by decide) (fun c1_1 => ?_) (fun c1_1 => ?_)
  · skip
    refine lv_lconst (v := 0) cx.1 cx.2.1 dX6_get_21 (by decide) ?_
    exact hp_lret cx hw (⟨rfl, by rw [rowAt_lo c1_1]⟩) dX6_get_22
  · skip
    refine lv_iload_n cx.1 cx.2.1 dX6_get_4 rfl (lv_at hl 1 rfl) ?_
    refine lv_aload_n cx.1 cx.2.1 dX6_get_5 rfl (lv_at hl 0 rfl) ?_
    refine hp_get (C := RX6) (T := TX6) (N := 2) (ci := 6) cx hw i_X6_get_X6 rfl hh 1 (by decide) m_X6_get_f13 (v := .int n) rfl dX6_get_6 ?_
    refine lv_icmp_ge (tgt := 21) cx.1 cx.2.1 dX6_get_9 (by decide) (fun c9_2 => ?_) (fun c9_2 => ?_)
    · skip
      refine lv_lconst (v := 0) cx.1 cx.2.1 dX6_get_21 (by decide) ?_
      exact hp_lret cx hw (⟨rfl, by rw [rowAt_hi c9_2]⟩) dX6_get_22
    · skip
      refine lv_aload_n cx.1 cx.2.1 dX6_get_12 rfl (lv_at hl 0 rfl) ?_
      refine hp_get (C := RX6) (T := TX6) (N := 2) (ci := 6) cx hw i_X6_get_X6 rfl hh 0 (by decide) m_X6_get_f7 (v := .ref c) rfl dX6_get_13 ?_
      refine lv_iload_n cx.1 cx.2.1 dX6_get_16 rfl (lv_at hl 1 rfl) ?_
      refine hp_lald cx hw 2 hc rfl (row_in c1_1 (Int32.not_le.mp c9_2) hN) dX6_get_17 ?_
      refine lv_goto (tgt := 22) cx.1 cx.2.1 dX6_get_18 (by decide) ?_
      exact hp_lret cx hw (⟨rfl, by rw [rowAt_in c1_1 (Int32.not_le.mp c9_2)]⟩) dX6_get_22

theorem m_X6_cut_f13 : Cond.fieldLink RX6 13 "WardenHouse$Row" "size" "I" ∈ wsX6_cut := by decide +kernel
set_option maxRecDepth 20000 in
theorem i_X6_cut_X6 : ∀ w ∈ wsX60, w ∈ wsX6_cut := by decide +kernel
set_option maxHeartbeats 4000000 in
set_option maxRecDepth 100000 in
/-- Row.cut(0) -/
theorem k_Row_cut0 (l : Launch) (D : va_G) (cA : Nat → ClassId) (E : hp_N) (sz : Nat) (g : hp_M) (h : Nat) (v : Value) (n : Int32) (hh : g h = some (.inr (6, [v, .int n]))) (hn : ¬ n < 0) : Met l yX6_cut wsX6_cut ({ frames := 0, cells := 0, slots := 0, locals := 0 }) (hp_Pc D vwCl (hp_Tl cA) E sz g [.ref h, .int 0]) (hp_Qv D vwCl (hp_Tl cA) sz g (fun u => u = hp_up g h (.inr (6, [v, .int 0])))) 0 0 (hp_A g sz) := by
  refine hp_ofW (cc := cX6_cut) (maxL := 2) (ret := none) (by decide) rfl (Nat.le_of_ble_eq_true rfl) ?_
  intro pp ee ss mm bb mt cd ls cx hsz hw hl
  have hl : lv_has ls 2 [(0, .ref h), (1, .int 0)] := hl
  refine lv_iload_n cx.1 cx.2.1 dX6_cut_0 rfl (lv_at hl 1 rfl) ?_
  refine lv_if_lt (tgt := 17) cx.1 cx.2.1 dX6_cut_1 (by decide) (fun c1_1 => ?_) (fun c1_1 => ?_)
  · exact absurd c1_1 (by decide)
  refine lv_iload_n cx.1 cx.2.1 dX6_cut_4 rfl (lv_at hl 1 rfl) ?_
  refine lv_aload_n cx.1 cx.2.1 dX6_cut_5 rfl (lv_at hl 0 rfl) ?_
  refine hp_get (C := RX6) (T := TX6) (N := 2) (ci := 6) cx hw i_X6_cut_X6 rfl hh 1 (by decide) m_X6_cut_f13 (v := .int n) rfl dX6_cut_6 ?_
  refine lv_icmp_ge (tgt := 17) cx.1 cx.2.1 dX6_cut_9 (by decide) (fun c9_2 => ?_) (fun c9_2 => ?_)
  · skip
    exact hp_vret cx hw ((by rw [show n = 0 from Int32.le_antisymm c9_2 (Int32.not_lt.mp hn)] at hh; funext b; unfold hp_up; by_cases hb : b = h; (subst hb; rw [if_pos rfl, hh]); rw [if_neg hb])) dX6_cut_17
  · skip
    refine lv_aload_n cx.1 cx.2.1 dX6_cut_12 rfl (lv_at hl 0 rfl) ?_
    refine lv_iload_n cx.1 cx.2.1 dX6_cut_13 rfl (lv_at hl 1 rfl) ?_
    refine hp_put (C := RX6) (T := TX6) (N := 2) (ci := 6) (fs' := [v, .int 0]) cx hw i_X6_cut_X6 tyX6_ok nmX6 rfl hh 1 (by decide) m_X6_cut_f13 rfl  rfl rfl (Nat.le_of_ble_eq_true rfl) rfl dX6_cut_14 (fun g3 H locs eg3 hw => ?_)
    have f4 : g3 h = some (.inr (6, [v, .int 0])) := (by rw [eg3]; exact hp_up_self _ _ _)
    exact hp_vret cx hw (eg3) dX6_cut_17

theorem m_X6_add_f13 : Cond.fieldLink RX6 13 "WardenHouse$Row" "size" "I" ∈ wsX6_add := by decide +kernel
set_option maxRecDepth 20000 in
theorem i_X6_add_X6 : ∀ w ∈ wsX60, w ∈ wsX6_add := by decide +kernel
theorem m_X6_add_c17 : Cond.constant RX6 17 (1048576) ∈ wsX6_add := by decide +kernel
theorem m_X6_add_f7 : Cond.fieldLink RX6 7 "WardenHouse$Row" "cells" "[J" ∈ wsX6_add := by decide +kernel
set_option maxHeartbeats 4000000 in
set_option maxRecDepth 100000 in
/-- Row.add(x), where there is room -/
theorem k_Row_add (l : Launch) (D : va_G) (cA : Nat → ClassId) (E : hp_N) (sz : Nat) (g : hp_M) (h c : Nat) (n : Int32) (N : Nat) (f : Nat → Int64) (hh : g h = some (.inr (6, [.ref c, .int n]))) (hc : g c = some (.inl (cA 2, N, .inr (.inl f)))) (x : Int64) (h0 : ¬ n < 0) (h1 : n < nI N) (h2 : n < 1048576) (hNb : N < 2 ^ 31) : Met l yX6_add wsX6_add ({ frames := 0, cells := 0, slots := 0, locals := 0 }) (hp_Pc D vwCl (hp_Tl cA) E sz g [.ref h, .long x]) (hp_Qv D vwCl (hp_Tl cA) sz g (fun u => ∃ g1 : hp_M, g1 = hp_up g c (.inl (cA 2, N, .inr (.inl (vp_updL f n.toNatClampNeg x)))) ∧ u = hp_up g1 h (.inr (6, [.ref c, .int (n + 1)])))) 0 0 (hp_A g sz) := by
  refine hp_ofW (cc := cX6_add) (maxL := 3) (ret := none) (by decide) rfl (Nat.le_of_ble_eq_true rfl) ?_
  intro pp ee ss mm bb mt cd ls cx hsz hw hl
  have hl : lv_has ls 3 [(0, .ref h), (1, .long x)] := hl
  refine lv_aload_n cx.1 cx.2.1 dX6_add_0 rfl (lv_at hl 0 rfl) ?_
  refine hp_get (C := RX6) (T := TX6) (N := 2) (ci := 6) cx hw i_X6_add_X6 rfl hh 1 (by decide) m_X6_add_f13 (v := .int n) rfl dX6_add_1 ?_
  refine lv_ldc cx.1 cx.2.1 cx.2.2.2.2.1 (cx.2.2.2.2.2.1 _ m_X6_add_c17) dX6_add_4 ?_
  refine lv_icmp_lt (tgt := 10) cx.1 cx.2.1 dX6_add_6 (by decide) (fun c6_1 => ?_) (fun c6_1 => ?_)
  rotate_left
  · exact absurd (h2) c6_1
  refine lv_aload_n cx.1 cx.2.1 dX6_add_10 rfl (lv_at hl 0 rfl) ?_
  refine hp_get (C := RX6) (T := TX6) (N := 2) (ci := 6) cx hw i_X6_add_X6 rfl hh 1 (by decide) m_X6_add_f13 (v := .int n) rfl dX6_add_11 ?_
  refine lv_aload_n cx.1 cx.2.1 dX6_add_14 rfl (lv_at hl 0 rfl) ?_
  refine hp_get (C := RX6) (T := TX6) (N := 2) (ci := 6) cx hw i_X6_add_X6 rfl hh 0 (by decide) m_X6_add_f7 (v := .ref c) rfl dX6_add_15 ?_
  refine hp_alen (v := (nI N)) cx hw 2 hc rfl rfl dX6_add_18 ?_
  refine lv_icmp_lt (tgt := 39) cx.1 cx.2.1 dX6_add_19 (by decide) (fun c19_2 => ?_) (fun c19_2 => ?_)
  rotate_left
  · exact absurd (h1) c19_2
  refine lv_aload_n cx.1 cx.2.1 dX6_add_39 rfl (lv_at hl 0 rfl) ?_
  refine hp_get (C := RX6) (T := TX6) (N := 2) (ci := 6) cx hw i_X6_add_X6 rfl hh 0 (by decide) m_X6_add_f7 (v := .ref c) rfl dX6_add_40 ?_
  refine lv_aload_n cx.1 cx.2.1 dX6_add_43 rfl (lv_at hl 0 rfl) ?_
  refine hp_get (C := RX6) (T := TX6) (N := 2) (ci := 6) cx hw i_X6_add_X6 rfl hh 1 (by decide) m_X6_add_f13 (v := .int n) rfl dX6_add_44 ?_
  refine lv_lload_n cx.1 cx.2.1 dX6_add_47 rfl (lv_at hl 1 rfl) ?_
  refine hp_last cx hw 2 hc rfl (row_in h0 h1 (by rw [nI_toInt hNb]; exact Int.le_refl _)) dX6_add_48 (fun g3 H locs eg3 hw => ?_)
  have f4 : g3 c = some (.inl (cA 2, N, .inr (.inl (vp_updL f n.toNatClampNeg x)))) := (by rw [eg3]; exact hp_up_self _ _ _)
  refine lv_aload_n cx.1 cx.2.1 dX6_add_49 rfl (lv_at hl 0 rfl) ?_
  refine lv_dup cx.1 cx.2.1 dX6_add_50 rfl ?_
  have f5 : g3 h = some (.inr (6, [.ref c, .int n])) := (by rw [eg3]; exact (hp_up_ne _ _ (hp_neOA hh hc)).trans hh)
  refine hp_get (C := RX6) (T := TX6) (N := 2) (ci := 6) cx hw i_X6_add_X6 rfl f5 1 (by decide) m_X6_add_f13 (v := .int n) rfl dX6_add_51 ?_
  refine lv_iconst (v := 1) cx.1 cx.2.1 dX6_add_54 (by decide) ?_
  refine lv_iadd cx.1 cx.2.1 dX6_add_55 ?_
  refine hp_put (C := RX6) (T := TX6) (N := 2) (ci := 6) (fs' := [.ref c, .int (n + 1)]) cx hw i_X6_add_X6 tyX6_ok nmX6 rfl f5 1 (by decide) m_X6_add_f13 rfl  rfl rfl (Nat.le_of_ble_eq_true rfl) rfl dX6_add_56 (fun g6 H locs eg6 hw => ?_)
  have f7 : g6 h = some (.inr (6, [.ref c, .int (n + 1)])) := (by rw [eg6]; exact hp_up_self _ _ _)
  exact hp_vret cx hw (⟨g3, eg3, eg6⟩) dX6_add_59
