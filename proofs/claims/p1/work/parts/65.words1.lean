def lk_w_byteAt_out : List Cond := [Cond.fieldLink RX10 47 "WardenHouse$Words" "length" "I"]
def v_w_byteAt_out : List Cond := .code yX10_byteAt cX10_byteAt 2 (some .int) :: (lk_w_byteAt_out ++ (wsX100 ++ []))
theorem m_w_byteAt_out_f47 : Cond.fieldLink RX10 47 "WardenHouse$Words" "length" "I" ∈ v_w_byteAt_out := List.mem_cons_of_mem _ (List.mem_append_left _ (List.mem_of_getElem? (i := 0) rfl))
theorem i_w_byteAt_out_X10 : ∀ w ∈ wsX100, w ∈ v_w_byteAt_out := fun _ h => List.mem_cons_of_mem _ (List.mem_append_right _ (List.mem_append_left _ h))
theorem gk_w_byteAt_out : lk_w_byteAt_out.all goodWord = true := by decide +kernel
theorem gd_v_w_byteAt_out : ∀ w ∈ v_w_byteAt_out, gdW w := fun w h => (List.mem_cons.mp h).elim (fun e => by rw [e]; exact good_of_word rfl) (fun h => (List.mem_append.mp h).elim (fun h => good_of_word (List.all_eq_true.mp gk_w_byteAt_out w h)) (fun h => (List.mem_append.mp h).elim (gd_wsX100 w) (fun h => nomatch h)))
set_option maxHeartbeats 4000000 in
set_option maxRecDepth 100000 in
theorem w_byteAt_out (l : Launch) (D : va_G) (cA : Nat → ClassId) (E : hp_N) (sz : Nat) (g : hp_M) (h k0 r1 r2 tx : Nat) (z mo pl nx kd wt : Int32) (vv : Int64) (hh : g h = some (.inr (10, [.ref k0, .ref r1, .ref r2, .ref tx, .int z, .int mo, .int pl, .int nx, .int kd, .int wt, .long vv]))) (i : Int32) (h0 : ¬ i < 0) (hz : z ≤ i) : Met l yX10_byteAt v_w_byteAt_out ({ frames := 0, cells := 0, slots := 0, locals := 0 }) (hp_Pc D vwCl (hp_Tl cA) E sz g [.ref h, .int i]) (hp_Qi D vwCl (hp_Tl cA) sz g (fun r u => u = g ∧ r = -1)) 0 0 (hp_A g sz) := by
  refine hp_ofW (cc := cX10_byteAt) (maxL := 2) (ret := (some .int)) (by decide) rfl (Nat.le_of_ble_eq_true rfl) ?_
  intro pp ee ss mm bb mt cd ls cx hsz hw hl
  have hl : lv_has ls 2 [(0, .ref h), (1, .int i)] := hl
  refine lv_iload_n cx.1 cx.2.1 dX10_byteAt_0 rfl (lv_at hl 1 rfl) ?_
  refine lv_if_lt (tgt := 34) cx.1 cx.2.1 dX10_byteAt_1 (by decide) (fun c1_1 => ?_) (fun c1_1 => ?_)
  · exact absurd c1_1 (h0)
  refine lv_iload_n cx.1 cx.2.1 dX10_byteAt_4 rfl (lv_at hl 1 rfl) ?_
  refine lv_aload_n cx.1 cx.2.1 dX10_byteAt_5 rfl (lv_at hl 0 rfl) ?_
  refine hp_get (C := RX10) (T := TX10) (N := 11) (ci := 10) cx hw i_w_byteAt_out_X10 rfl hh 4 (by decide) m_w_byteAt_out_f47 (v := .int z) rfl dX10_byteAt_6 ?_
  refine lv_icmp_ge (tgt := 34) cx.1 cx.2.1 dX10_byteAt_9 (by decide) (fun c9_2 => ?_) (fun c9_2 => ?_)
  rotate_left
  · exact absurd (hz) c9_2
  refine lv_iconst (v := (-1)) cx.1 cx.2.1 dX10_byteAt_34 (by decide) ?_
  exact hp_iret cx hw (⟨rfl, rfl⟩) dX10_byteAt_35

def lk_w_skip_end : List Cond := [Cond.fieldLink RX10 53 "WardenHouse$Words" "place" "I", Cond.fieldLink RX10 47 "WardenHouse$Words" "length" "I"]
def v_w_skip_end : List Cond := .code yX10_skipBlanks cX10_skipBlanks 3 none :: (lk_w_skip_end ++ (wsX100 ++ []))
theorem m_w_skip_end_f53 : Cond.fieldLink RX10 53 "WardenHouse$Words" "place" "I" ∈ v_w_skip_end := List.mem_cons_of_mem _ (List.mem_append_left _ (List.mem_of_getElem? (i := 0) rfl))
theorem m_w_skip_end_f47 : Cond.fieldLink RX10 47 "WardenHouse$Words" "length" "I" ∈ v_w_skip_end := List.mem_cons_of_mem _ (List.mem_append_left _ (List.mem_of_getElem? (i := 1) rfl))
theorem i_w_skip_end_X10 : ∀ w ∈ wsX100, w ∈ v_w_skip_end := fun _ h => List.mem_cons_of_mem _ (List.mem_append_right _ (List.mem_append_left _ h))
theorem gk_w_skip_end : lk_w_skip_end.all goodWord = true := by decide +kernel
theorem gd_v_w_skip_end : ∀ w ∈ v_w_skip_end, gdW w := fun w h => (List.mem_cons.mp h).elim (fun e => by rw [e]; exact good_of_word rfl) (fun h => (List.mem_append.mp h).elim (fun h => good_of_word (List.all_eq_true.mp gk_w_skip_end w h)) (fun h => (List.mem_append.mp h).elim (gd_wsX100 w) (fun h => nomatch h)))
set_option maxHeartbeats 4000000 in
set_option maxRecDepth 100000 in
theorem w_skip_end (l : Launch) (D : va_G) (cA : Nat → ClassId) (E : hp_N) (sz : Nat) (g : hp_M) (h k0 r1 r2 tx : Nat) (z mo pl nx kd wt : Int32) (vv : Int64) (hh : g h = some (.inr (10, [.ref k0, .ref r1, .ref r2, .ref tx, .int z, .int mo, .int pl, .int nx, .int kd, .int wt, .long vv]))) (hz : z ≤ pl) : Met l yX10_skipBlanks v_w_skip_end ({ frames := 0, cells := 0, slots := 0, locals := 0 }) (hp_Pc D vwCl (hp_Tl cA) E sz g [.ref h]) (hp_Qv D vwCl (hp_Tl cA) sz g (fun u => u = g)) 0 0 (hp_A g sz) := by
  refine hp_ofW (cc := cX10_skipBlanks) (maxL := 3) (ret := none) (by decide) rfl (Nat.le_of_ble_eq_true rfl) ?_
  intro pp ee ss mm bb mt cd ls cx hsz hw hl
  have hl : lv_has ls 3 [(0, .ref h)] := hl
  refine lv_iconst (v := 0) cx.1 cx.2.1 dX10_skipBlanks_0 (by decide) ?_
  refine lv_istore_n (lv' := [(1, .int 0), (0, .ref h)]) cx.1 cx.2.1 dX10_skipBlanks_1 rfl hl (by decide) rfl (fun ls hl => ?_)
  refine lv_aload_n cx.1 cx.2.1 dX10_skipBlanks_2 rfl (lv_at hl 1 rfl) ?_
  refine hp_get (C := RX10) (T := TX10) (N := 11) (ci := 10) cx hw i_w_skip_end_X10 rfl hh 6 (by decide) m_w_skip_end_f53 (v := .int pl) rfl dX10_skipBlanks_3 ?_
  refine lv_aload_n cx.1 cx.2.1 dX10_skipBlanks_6 rfl (lv_at hl 1 rfl) ?_
  refine hp_get (C := RX10) (T := TX10) (N := 11) (ci := 10) cx hw i_w_skip_end_X10 rfl hh 4 (by decide) m_w_skip_end_f47 (v := .int z) rfl dX10_skipBlanks_7 ?_
  refine lv_icmp_ge (tgt := 74) cx.1 cx.2.1 dX10_skipBlanks_10 (by decide) (fun c10_1 => ?_) (fun c10_1 => ?_)
  rotate_left
  · exact absurd (hz) c10_1
  exact hp_vret cx hw (rfl) dX10_skipBlanks_74

def lk_w_addWord : List Cond := [Cond.fieldLink RX10 20 "WardenHouse$Words" "found" "LWardenHouse$Row;", Cond.methodLink RX10 111 yX6_add, Cond.instanceMethod yX6_add, Cond.selects RX6 yX6_add yX6_add, Cond.initialized RX6]
def v_w_addWord : List Cond := .code yX10_addWord cX10_addWord 5 none :: (lk_w_addWord ++ (wsX100 ++ (wsX6_add ++ [])))
theorem m_w_addWord_f20 : Cond.fieldLink RX10 20 "WardenHouse$Words" "found" "LWardenHouse$Row;" ∈ v_w_addWord := List.mem_cons_of_mem _ (List.mem_append_left _ (List.mem_of_getElem? (i := 0) rfl))
theorem m_w_addWord_l111 : Cond.methodLink RX10 111 yX6_add ∈ v_w_addWord := List.mem_cons_of_mem _ (List.mem_append_left _ (List.mem_of_getElem? (i := 1) rfl))
theorem m_w_addWord_j111 : Cond.instanceMethod yX6_add ∈ v_w_addWord := List.mem_cons_of_mem _ (List.mem_append_left _ (List.mem_of_getElem? (i := 2) rfl))
theorem m_w_addWord_s111 : Cond.selects RX6 yX6_add yX6_add ∈ v_w_addWord := List.mem_cons_of_mem _ (List.mem_append_left _ (List.mem_of_getElem? (i := 3) rfl))
theorem m_w_addWord_z6 : Cond.initialized RX6 ∈ v_w_addWord := List.mem_cons_of_mem _ (List.mem_append_left _ (List.mem_of_getElem? (i := 4) rfl))
theorem i_w_addWord_X10 : ∀ w ∈ wsX100, w ∈ v_w_addWord := fun _ h => List.mem_cons_of_mem _ (List.mem_append_right _ (List.mem_append_left _ h))
theorem j_w_addWord_wsX6_add : ∀ w ∈ wsX6_add, w ∈ v_w_addWord := fun _ h => List.mem_cons_of_mem _ (List.mem_append_right _ (List.mem_append_right _ (List.mem_append_left _ h)))
theorem gk_w_addWord : lk_w_addWord.all goodWord = true := by decide +kernel
theorem gd_v_w_addWord : ∀ w ∈ v_w_addWord, gdW w := fun w h => (List.mem_cons.mp h).elim (fun e => by rw [e]; exact good_of_word rfl) (fun h => (List.mem_append.mp h).elim (fun h => good_of_word (List.all_eq_true.mp gk_w_addWord w h)) (fun h => (List.mem_append.mp h).elim (gd_wsX100 w) (fun h => (List.mem_append.mp h).elim (gd_wsX6_add w) (fun h => nomatch h))))
theorem g_w_addWord_111_wsX6_add : GoodIn v_w_addWord (wsV RX10 111 RX6 yX6_add wsX6_add) := goodIn_app (fun w h => (fun h => (List.mem_cons.mp h).elim (fun e => by rw [e]; exact ⟨m_w_addWord_l111, good_of_word rfl⟩) (fun h => (List.mem_cons.mp h).elim (fun e => by rw [e]; exact ⟨m_w_addWord_j111, good_of_word rfl⟩) (fun h => (List.mem_cons.mp h).elim (fun e => by rw [e]; exact ⟨m_w_addWord_s111, good_of_word rfl⟩) (fun h => (List.mem_cons.mp h).elim (fun e => by rw [e]; exact ⟨m_w_addWord_z6, good_of_word rfl⟩) (fun h => nomatch h))))) h) (fun w h => ⟨j_w_addWord_wsX6_add w h, gd_wsX6_add w h⟩)
set_option maxHeartbeats 4000000 in
set_option maxRecDepth 100000 in
theorem w_addWord (l : Launch) (D : va_G) (cA : Nat → ClassId) (E : hp_N) (sz : Nat) (g : hp_M) (h k0 r1 r2 tx : Nat) (z mo pl nx kd wt : Int32) (vv : Int64) (hh : g h = some (.inr (10, [.ref k0, .ref r1, .ref r2, .ref tx, .int z, .int mo, .int pl, .int nx, .int kd, .int wt, .long vv]))) (c1 : Nat) (f : Nat → Int64) (hr : g r1 = some (.inr (6, [.ref c1, .int 0]))) (hc : g c1 = some (.inl (cA 2, 192, .inr (.inl f)))) (x y : Int32) (v : Int64) : Met l yX10_addWord v_w_addWord ({ frames := 1, cells := 0, slots := 0, locals := 22 }) (hp_Pc D vwCl (hp_Tl cA) E sz g [.ref h, .int x, .int y, .long v]) (hp_Qv D vwCl (hp_Tl cA) sz g (fun u => hp_extL [c1, r1] g u ∧ u r1 = some (.inr (6, [.ref c1, .int 3])) ∧ u c1 = some (.inl (cA 2, 192, .inr (.inl (w3 f x.toInt64 y.toInt64 v)))))) 0 0 (hp_A g sz) := by
  refine hp_ofW (cc := cX10_addWord) (maxL := 5) (ret := none) (by decide) rfl (Nat.le_of_ble_eq_true rfl) ?_
  intro pp ee ss mm bb mt cd ls cx hsz hw hl
  have hl : lv_has ls 5 [(0, .ref h), (1, .int x), (2, .int y), (3, .long v)] := hl
  refine lv_aload_n cx.1 cx.2.1 dX10_addWord_0 rfl (lv_at hl 0 rfl) ?_
  refine hp_get (C := RX10) (T := TX10) (N := 11) (ci := 10) cx hw i_w_addWord_X10 rfl hh 1 (by decide) m_w_addWord_f20 (v := .ref r1) rfl dX10_addWord_1 ?_
  refine lv_iload_n cx.1 cx.2.1 dX10_addWord_4 rfl (lv_at hl 1 rfl) ?_
  refine lv_i2l (v := (x.toInt64)) cx.1 cx.2.1 dX10_addWord_5 rfl ?_
  refine hp_callVv (As := [.long (x.toInt64)]) (rest := []) cx hw (k_Row_add l D cA E _ g r1 c1 0 192 f hr hc (x.toInt64) (by decide) (by decide) (by decide) (by decide)) (cwV 1 cx.2.2.2.2.2.1 g_w_addWord_111_wsX6_add rfl rfl rfl (by decide +kernel) ⟨Nat.le_of_ble_eq_true rfl, Nat.le_of_ble_eq_true rfl⟩) hr rfl rfl hl.1 rfl (Nat.le_of_ble_eq_true rfl) dX10_addWord_6 ⟨Nat.le_of_ble_eq_true rfl, Nat.le_of_ble_eq_true rfl⟩ (fun u1 H locs hp3 hw => ?_)
  obtain ⟨g4, eg4, eu1⟩ := hp3
  rw [show (0 : Int32) + 1 = 1 from by decide] at eu1
  have f5 : g4 c1 = some (.inl (cA 2, 192, .inr (.inl (vp_updL f (0 : Int32).toNatClampNeg (x.toInt64))))) := (by rw [eg4]; exact hp_up_self _ _ _)
  have f6 : u1 r1 = some (.inr (6, [.ref c1, .int 1])) := (by rw [eu1]; exact hp_up_self _ _ _)
  refine lv_aload_n cx.1 cx.2.1 dX10_addWord_9 rfl (lv_at hl 0 rfl) ?_
  have f7 : g4 h = some (.inr (10, [.ref k0, .ref r1, .ref r2, .ref tx, .int z, .int mo, .int pl, .int nx, .int kd, .int wt, .long vv])) := (by rw [eg4]; exact (hp_up_ne _ _ (hp_neOA hh hc)).trans hh)
  have f8 : g4 r1 = some (.inr (6, [.ref c1, .int 0])) := (by rw [eg4]; exact (hp_up_ne _ _ (hp_neOA hr hc)).trans hr)
  have f9 : u1 h = some (.inr (10, [.ref k0, .ref r1, .ref r2, .ref tx, .int z, .int mo, .int pl, .int nx, .int kd, .int wt, .long vv])) := (by rw [eu1]; exact (hp_up_ne _ _ (hp_neK f7 f8 (by decide))).trans f7)
  refine hp_get (C := RX10) (T := TX10) (N := 11) (ci := 10) cx hw i_w_addWord_X10 rfl f9 1 (by decide) m_w_addWord_f20 (v := .ref r1) rfl dX10_addWord_10 ?_
  refine lv_iload_n cx.1 cx.2.1 dX10_addWord_13 rfl (lv_at hl 2 rfl) ?_
  refine lv_i2l (v := (y.toInt64)) cx.1 cx.2.1 dX10_addWord_14 rfl ?_
  have f10 : u1 c1 = some (.inl (cA 2, 192, .inr (.inl (vp_updL f (0 : Int32).toNatClampNeg (x.toInt64))))) := (by rw [eu1]; exact (hp_up_ne _ _ (hp_neAO f5 f8)).trans f5)
  refine hp_callVv (As := [.long (y.toInt64)]) (rest := []) cx hw (k_Row_add l D cA E _ u1 r1 c1 1 192 (vp_updL f (0 : Int32).toNatClampNeg (x.toInt64)) f6 f10 (y.toInt64) (by decide) (by decide) (by decide) (by decide)) (cwV 1 cx.2.2.2.2.2.1 g_w_addWord_111_wsX6_add rfl rfl rfl (by decide +kernel) ⟨Nat.le_of_ble_eq_true rfl, Nat.le_of_ble_eq_true rfl⟩) f6 rfl rfl hl.1 rfl (Nat.le_of_ble_eq_true rfl) dX10_addWord_15 ⟨Nat.le_of_ble_eq_true rfl, Nat.le_of_ble_eq_true rfl⟩ (fun u11 H locs hp13 hw => ?_)
  obtain ⟨g14, eg14, eu11⟩ := hp13
  rw [show (1 : Int32) + 1 = 2 from by decide] at eu11
  have f15 : g14 c1 = some (.inl (cA 2, 192, .inr (.inl (vp_updL (vp_updL f (0 : Int32).toNatClampNeg (x.toInt64)) (1 : Int32).toNatClampNeg (y.toInt64))))) := (by rw [eg14]; exact hp_up_self _ _ _)
  have f16 : u11 r1 = some (.inr (6, [.ref c1, .int 2])) := (by rw [eu11]; exact hp_up_self _ _ _)
  refine lv_aload_n cx.1 cx.2.1 dX10_addWord_18 rfl (lv_at hl 0 rfl) ?_
  have f17 : g14 h = some (.inr (10, [.ref k0, .ref r1, .ref r2, .ref tx, .int z, .int mo, .int pl, .int nx, .int kd, .int wt, .long vv])) := (by rw [eg14]; exact (hp_up_ne _ _ (hp_neOA f9 f10)).trans f9)
  have f18 : g14 r1 = some (.inr (6, [.ref c1, .int 1])) := (by rw [eg14]; exact (hp_up_ne _ _ (hp_neOA f6 f10)).trans f6)
  have f19 : u11 h = some (.inr (10, [.ref k0, .ref r1, .ref r2, .ref tx, .int z, .int mo, .int pl, .int nx, .int kd, .int wt, .long vv])) := (by rw [eu11]; exact (hp_up_ne _ _ (hp_neK f17 f18 (by decide))).trans f17)
  refine hp_get (C := RX10) (T := TX10) (N := 11) (ci := 10) cx hw i_w_addWord_X10 rfl f19 1 (by decide) m_w_addWord_f20 (v := .ref r1) rfl dX10_addWord_19 ?_
  refine lv_lload_n cx.1 cx.2.1 dX10_addWord_22 rfl (lv_at hl 3 rfl) ?_
  have f20 : u11 c1 = some (.inl (cA 2, 192, .inr (.inl (vp_updL (vp_updL f (0 : Int32).toNatClampNeg (x.toInt64)) (1 : Int32).toNatClampNeg (y.toInt64))))) := (by rw [eu11]; exact (hp_up_ne _ _ (hp_neAO f15 f18)).trans f15)
  refine hp_callVv (As := [.long v]) (rest := []) cx hw (k_Row_add l D cA E _ u11 r1 c1 2 192 (vp_updL (vp_updL f (0 : Int32).toNatClampNeg (x.toInt64)) (1 : Int32).toNatClampNeg (y.toInt64)) f16 f20 v (by decide) (by decide) (by decide) (by decide)) (cwV 1 cx.2.2.2.2.2.1 g_w_addWord_111_wsX6_add rfl rfl rfl (by decide +kernel) ⟨Nat.le_of_ble_eq_true rfl, Nat.le_of_ble_eq_true rfl⟩) f16 rfl rfl hl.1 rfl (Nat.le_of_ble_eq_true rfl) dX10_addWord_23 ⟨Nat.le_of_ble_eq_true rfl, Nat.le_of_ble_eq_true rfl⟩ (fun u21 H locs hp23 hw => ?_)
  obtain ⟨g24, eg24, eu21⟩ := hp23
  rw [show (2 : Int32) + 1 = 3 from by decide] at eu21
  have f25 : g24 c1 = some (.inl (cA 2, 192, .inr (.inl (vp_updL (vp_updL (vp_updL f (0 : Int32).toNatClampNeg (x.toInt64)) (1 : Int32).toNatClampNeg (y.toInt64)) (2 : Int32).toNatClampNeg v)))) := (by rw [eg24]; exact hp_up_self _ _ _)
  have f26 : u21 r1 = some (.inr (6, [.ref c1, .int 3])) := (by rw [eu21]; exact hp_up_self _ _ _)
  have hxt : hp_extL [c1, r1] g u21 := by
    intro b e hb hg
    have hb0 : b ≠ c1 := fun q => hb (by rw [q]; simp)
    have hb1 : b ≠ r1 := fun q => hb (by rw [q]; simp)
    have b_g4 : g4 b = some e := by rw [eg4]; exact (hp_up_ne _ _ (hb0)).trans hg
    have b_u1 : u1 b = some e := by rw [eu1]; exact (hp_up_ne _ _ (hb1)).trans b_g4
    have b_g14 : g14 b = some e := by rw [eg14]; exact (hp_up_ne _ _ (hb0)).trans b_u1
    have b_u11 : u11 b = some e := by rw [eu11]; exact (hp_up_ne _ _ (hb1)).trans b_g14
    have b_g24 : g24 b = some e := by rw [eg24]; exact (hp_up_ne _ _ (hb0)).trans b_u11
    have b_u21 : u21 b = some e := by rw [eu21]; exact (hp_up_ne _ _ (hb1)).trans b_g24
    exact b_u21
  have f27 : g24 r1 = some (.inr (6, [.ref c1, .int 2])) := (by rw [eg24]; exact (hp_up_ne _ _ (hp_neOA f16 f20)).trans f16)
  have f28 : u21 c1 = some (.inl (cA 2, 192, .inr (.inl (vp_updL (vp_updL (vp_updL f (0 : Int32).toNatClampNeg (x.toInt64)) (1 : Int32).toNatClampNeg (y.toInt64)) (2 : Int32).toNatClampNeg v)))) := (by rw [eu21]; exact (hp_up_ne _ _ (hp_neAO f25 f27)).trans f25)
  exact hp_vret cx hw (⟨hxt, f26, f28⟩) dX10_addWord_26

def lk_w_findWord0 : List Cond := [Cond.methodLink RX10 114 yX10_skipBlanks, Cond.instanceMethod yX10_skipBlanks, Cond.selects RX10 yX10_skipBlanks yX10_skipBlanks, Cond.initialized RX10, Cond.fieldLink RX10 53 "WardenHouse$Words" "place" "I", Cond.methodLink RX10 101 yX10_byteAt, Cond.instanceMethod yX10_byteAt, Cond.selects RX10 yX10_byteAt yX10_byteAt, Cond.methodLink RX10 117 yX10_addWord, Cond.instanceMethod yX10_addWord, Cond.selects RX10 yX10_addWord yX10_addWord, Cond.fieldLink RX10 20 "WardenHouse$Words" "found" "LWardenHouse$Row;", Cond.fieldLink RX10 133 "WardenHouse$Row" "size" "I", Cond.methodLink RX10 69 yX6_at, Cond.instanceMethod yX6_at, Cond.selects RX6 yX6_at yX6_at, Cond.initialized RX6]
def v_w_findWord0 : List Cond := .code yX10_findWord cX10_findWord 4 (some .boolean) :: (lk_w_findWord0 ++ (v_w_skip_end ++ (wsX100 ++ (v_w_byteAt_out ++ (v_w_addWord ++ (wsX60 ++ (wsX6_at ++ [])))))))
theorem m_w_findWord0_l114 : Cond.methodLink RX10 114 yX10_skipBlanks ∈ v_w_findWord0 := List.mem_cons_of_mem _ (List.mem_append_left _ (List.mem_of_getElem? (i := 0) rfl))
theorem m_w_findWord0_j114 : Cond.instanceMethod yX10_skipBlanks ∈ v_w_findWord0 := List.mem_cons_of_mem _ (List.mem_append_left _ (List.mem_of_getElem? (i := 1) rfl))
theorem m_w_findWord0_s114 : Cond.selects RX10 yX10_skipBlanks yX10_skipBlanks ∈ v_w_findWord0 := List.mem_cons_of_mem _ (List.mem_append_left _ (List.mem_of_getElem? (i := 2) rfl))
theorem m_w_findWord0_z10 : Cond.initialized RX10 ∈ v_w_findWord0 := List.mem_cons_of_mem _ (List.mem_append_left _ (List.mem_of_getElem? (i := 3) rfl))
theorem m_w_findWord0_f53 : Cond.fieldLink RX10 53 "WardenHouse$Words" "place" "I" ∈ v_w_findWord0 := List.mem_cons_of_mem _ (List.mem_append_left _ (List.mem_of_getElem? (i := 4) rfl))
theorem m_w_findWord0_l101 : Cond.methodLink RX10 101 yX10_byteAt ∈ v_w_findWord0 := List.mem_cons_of_mem _ (List.mem_append_left _ (List.mem_of_getElem? (i := 5) rfl))
theorem m_w_findWord0_j101 : Cond.instanceMethod yX10_byteAt ∈ v_w_findWord0 := List.mem_cons_of_mem _ (List.mem_append_left _ (List.mem_of_getElem? (i := 6) rfl))
theorem m_w_findWord0_s101 : Cond.selects RX10 yX10_byteAt yX10_byteAt ∈ v_w_findWord0 := List.mem_cons_of_mem _ (List.mem_append_left _ (List.mem_of_getElem? (i := 7) rfl))
theorem m_w_findWord0_l117 : Cond.methodLink RX10 117 yX10_addWord ∈ v_w_findWord0 := List.mem_cons_of_mem _ (List.mem_append_left _ (List.mem_of_getElem? (i := 8) rfl))
theorem m_w_findWord0_j117 : Cond.instanceMethod yX10_addWord ∈ v_w_findWord0 := List.mem_cons_of_mem _ (List.mem_append_left _ (List.mem_of_getElem? (i := 9) rfl))
theorem m_w_findWord0_s117 : Cond.selects RX10 yX10_addWord yX10_addWord ∈ v_w_findWord0 := List.mem_cons_of_mem _ (List.mem_append_left _ (List.mem_of_getElem? (i := 10) rfl))
theorem m_w_findWord0_f20 : Cond.fieldLink RX10 20 "WardenHouse$Words" "found" "LWardenHouse$Row;" ∈ v_w_findWord0 := List.mem_cons_of_mem _ (List.mem_append_left _ (List.mem_of_getElem? (i := 11) rfl))
theorem m_w_findWord0_f133 : Cond.fieldLink RX10 133 "WardenHouse$Row" "size" "I" ∈ v_w_findWord0 := List.mem_cons_of_mem _ (List.mem_append_left _ (List.mem_of_getElem? (i := 12) rfl))
theorem m_w_findWord0_l69 : Cond.methodLink RX10 69 yX6_at ∈ v_w_findWord0 := List.mem_cons_of_mem _ (List.mem_append_left _ (List.mem_of_getElem? (i := 13) rfl))
theorem m_w_findWord0_j69 : Cond.instanceMethod yX6_at ∈ v_w_findWord0 := List.mem_cons_of_mem _ (List.mem_append_left _ (List.mem_of_getElem? (i := 14) rfl))
theorem m_w_findWord0_s69 : Cond.selects RX6 yX6_at yX6_at ∈ v_w_findWord0 := List.mem_cons_of_mem _ (List.mem_append_left _ (List.mem_of_getElem? (i := 15) rfl))
theorem m_w_findWord0_z6 : Cond.initialized RX6 ∈ v_w_findWord0 := List.mem_cons_of_mem _ (List.mem_append_left _ (List.mem_of_getElem? (i := 16) rfl))
theorem j_w_findWord0_v_w_skip_end : ∀ w ∈ v_w_skip_end, w ∈ v_w_findWord0 := fun _ h => List.mem_cons_of_mem _ (List.mem_append_right _ (List.mem_append_left _ h))
theorem i_w_findWord0_X10 : ∀ w ∈ wsX100, w ∈ v_w_findWord0 := fun _ h => List.mem_cons_of_mem _ (List.mem_append_right _ (List.mem_append_right _ (List.mem_append_left _ h)))
theorem j_w_findWord0_v_w_byteAt_out : ∀ w ∈ v_w_byteAt_out, w ∈ v_w_findWord0 := fun _ h => List.mem_cons_of_mem _ (List.mem_append_right _ (List.mem_append_right _ (List.mem_append_right _ (List.mem_append_left _ h))))
theorem j_w_findWord0_v_w_addWord : ∀ w ∈ v_w_addWord, w ∈ v_w_findWord0 := fun _ h => List.mem_cons_of_mem _ (List.mem_append_right _ (List.mem_append_right _ (List.mem_append_right _ (List.mem_append_right _ (List.mem_append_left _ h)))))
theorem i_w_findWord0_X6 : ∀ w ∈ wsX60, w ∈ v_w_findWord0 := fun _ h => List.mem_cons_of_mem _ (List.mem_append_right _ (List.mem_append_right _ (List.mem_append_right _ (List.mem_append_right _ (List.mem_append_right _ (List.mem_append_left _ h))))))
theorem j_w_findWord0_wsX6_at : ∀ w ∈ wsX6_at, w ∈ v_w_findWord0 := fun _ h => List.mem_cons_of_mem _ (List.mem_append_right _ (List.mem_append_right _ (List.mem_append_right _ (List.mem_append_right _ (List.mem_append_right _ (List.mem_append_right _ (List.mem_append_left _ h)))))))
theorem gk_w_findWord0 : lk_w_findWord0.all goodWord = true := by decide +kernel
theorem gd_v_w_findWord0 : ∀ w ∈ v_w_findWord0, gdW w := fun w h => (List.mem_cons.mp h).elim (fun e => by rw [e]; exact good_of_word rfl) (fun h => (List.mem_append.mp h).elim (fun h => good_of_word (List.all_eq_true.mp gk_w_findWord0 w h)) (fun h => (List.mem_append.mp h).elim (gd_v_w_skip_end w) (fun h => (List.mem_append.mp h).elim (gd_wsX100 w) (fun h => (List.mem_append.mp h).elim (gd_v_w_byteAt_out w) (fun h => (List.mem_append.mp h).elim (gd_v_w_addWord w) (fun h => (List.mem_append.mp h).elim (gd_wsX60 w) (fun h => (List.mem_append.mp h).elim (gd_wsX6_at w) (fun h => nomatch h))))))))
theorem g_w_findWord0_114_v_w_skip_end : GoodIn v_w_findWord0 (wsV RX10 114 RX10 yX10_skipBlanks v_w_skip_end) := goodIn_app (fun w h => (fun h => (List.mem_cons.mp h).elim (fun e => by rw [e]; exact ⟨m_w_findWord0_l114, good_of_word rfl⟩) (fun h => (List.mem_cons.mp h).elim (fun e => by rw [e]; exact ⟨m_w_findWord0_j114, good_of_word rfl⟩) (fun h => (List.mem_cons.mp h).elim (fun e => by rw [e]; exact ⟨m_w_findWord0_s114, good_of_word rfl⟩) (fun h => (List.mem_cons.mp h).elim (fun e => by rw [e]; exact ⟨m_w_findWord0_z10, good_of_word rfl⟩) (fun h => nomatch h))))) h) (fun w h => ⟨j_w_findWord0_v_w_skip_end w h, gd_v_w_skip_end w h⟩)
theorem g_w_findWord0_101_v_w_byteAt_out : GoodIn v_w_findWord0 (wsV RX10 101 RX10 yX10_byteAt v_w_byteAt_out) := goodIn_app (fun w h => (fun h => (List.mem_cons.mp h).elim (fun e => by rw [e]; exact ⟨m_w_findWord0_l101, good_of_word rfl⟩) (fun h => (List.mem_cons.mp h).elim (fun e => by rw [e]; exact ⟨m_w_findWord0_j101, good_of_word rfl⟩) (fun h => (List.mem_cons.mp h).elim (fun e => by rw [e]; exact ⟨m_w_findWord0_s101, good_of_word rfl⟩) (fun h => (List.mem_cons.mp h).elim (fun e => by rw [e]; exact ⟨m_w_findWord0_z10, good_of_word rfl⟩) (fun h => nomatch h))))) h) (fun w h => ⟨j_w_findWord0_v_w_byteAt_out w h, gd_v_w_byteAt_out w h⟩)
theorem g_w_findWord0_117_v_w_addWord : GoodIn v_w_findWord0 (wsV RX10 117 RX10 yX10_addWord v_w_addWord) := goodIn_app (fun w h => (fun h => (List.mem_cons.mp h).elim (fun e => by rw [e]; exact ⟨m_w_findWord0_l117, good_of_word rfl⟩) (fun h => (List.mem_cons.mp h).elim (fun e => by rw [e]; exact ⟨m_w_findWord0_j117, good_of_word rfl⟩) (fun h => (List.mem_cons.mp h).elim (fun e => by rw [e]; exact ⟨m_w_findWord0_s117, good_of_word rfl⟩) (fun h => (List.mem_cons.mp h).elim (fun e => by rw [e]; exact ⟨m_w_findWord0_z10, good_of_word rfl⟩) (fun h => nomatch h))))) h) (fun w h => ⟨j_w_findWord0_v_w_addWord w h, gd_v_w_addWord w h⟩)
theorem g_w_findWord0_69_wsX6_at : GoodIn v_w_findWord0 (wsV RX10 69 RX6 yX6_at wsX6_at) := goodIn_app (fun w h => (fun h => (List.mem_cons.mp h).elim (fun e => by rw [e]; exact ⟨m_w_findWord0_l69, good_of_word rfl⟩) (fun h => (List.mem_cons.mp h).elim (fun e => by rw [e]; exact ⟨m_w_findWord0_j69, good_of_word rfl⟩) (fun h => (List.mem_cons.mp h).elim (fun e => by rw [e]; exact ⟨m_w_findWord0_s69, good_of_word rfl⟩) (fun h => (List.mem_cons.mp h).elim (fun e => by rw [e]; exact ⟨m_w_findWord0_z6, good_of_word rfl⟩) (fun h => nomatch h))))) h) (fun w h => ⟨j_w_findWord0_wsX6_at w h, gd_wsX6_at w h⟩)
set_option maxHeartbeats 4000000 in
set_option maxRecDepth 100000 in
theorem w_findWord0 (l : Launch) (D : va_G) (cA : Nat → ClassId) (E : hp_N) (sz : Nat) (g : hp_M) (h k0 r1 r2 tx : Nat) (mo nx kd wt : Int32) (vv : Int64) (hh : g h = some (.inr (10, [.ref k0, .ref r1, .ref r2, .ref tx, .int 0, .int mo, .int 0, .int nx, .int kd, .int wt, .long vv]))) (c1 : Nat) (f : Nat → Int64) (hr : g r1 = some (.inr (6, [.ref c1, .int 0]))) (hc : g c1 = some (.inl (cA 2, 192, .inr (.inl f)))) : Met l yX10_findWord v_w_findWord0 ({ frames := 2, cells := 0, slots := 0, locals := 50 }) (hp_Pc D vwCl (hp_Tl cA) E sz g [.ref h]) (hp_Qi D vwCl (hp_Tl cA) sz g (fun r u => r = 0 ∧ hp_extL [c1, r1] g u ∧ u r1 = some (.inr (6, [.ref c1, .int 3])) ∧ u c1 = some (.inl (cA 2, 192, .inr (.inl (w3 f (0 : Int32).toInt64 (0 : Int32).toInt64 0)))))) 0 0 (hp_A g sz) := by
  refine hp_ofW (cc := cX10_findWord) (maxL := 4) (ret := (some .boolean)) (by decide) rfl (Nat.le_of_ble_eq_true rfl) ?_
  intro pp ee ss mm bb mt cd ls cx hsz hw hl
  have hl : lv_has ls 4 [(0, .ref h)] := hl
  refine lv_aload_n cx.1 cx.2.1 dX10_findWord_0 rfl (lv_at hl 0 rfl) ?_
  refine hp_callVv (As := []) (rest := []) cx hw (w_skip_end l D cA E _ g h k0 r1 r2 tx 0 mo 0 nx kd wt vv hh (by decide)) (cwV 0 cx.2.2.2.2.2.1 g_w_findWord0_114_v_w_skip_end rfl rfl rfl (by decide +kernel) ⟨Nat.le_of_ble_eq_true rfl, Nat.le_of_ble_eq_true rfl⟩) hh rfl rfl hl.1 rfl (Nat.le_of_ble_eq_true rfl) dX10_findWord_1 ⟨Nat.le_of_ble_eq_true rfl, Nat.le_of_ble_eq_true rfl⟩ (fun u1 H locs hp3 hw => ?_)
  rw [hp3] at hw
  refine lv_aload_n cx.1 cx.2.1 dX10_findWord_4 rfl (lv_at hl 0 rfl) ?_
  refine hp_get (C := RX10) (T := TX10) (N := 11) (ci := 10) cx hw i_w_findWord0_X10 rfl hh 6 (by decide) m_w_findWord0_f53 (v := .int 0) rfl dX10_findWord_5 ?_
  refine lv_istore_n (lv' := [(1, .int 0), (0, .ref h)]) cx.1 cx.2.1 dX10_findWord_8 rfl hl (by decide) rfl (fun ls hl => ?_)
  refine lv_aload_n cx.1 cx.2.1 dX10_findWord_9 rfl (lv_at hl 1 rfl) ?_
  refine lv_aload_n cx.1 cx.2.1 dX10_findWord_10 rfl (lv_at hl 1 rfl) ?_
  refine hp_get (C := RX10) (T := TX10) (N := 11) (ci := 10) cx hw i_w_findWord0_X10 rfl hh 6 (by decide) m_w_findWord0_f53 (v := .int 0) rfl dX10_findWord_11 ?_
  refine hp_callVi (As := [.int 0]) (rest := []) cx hw (w_byteAt_out l D cA E _ g h k0 r1 r2 tx 0 mo 0 nx kd wt vv hh 0 (by decide) (by decide)) (cwV 1 cx.2.2.2.2.2.1 g_w_findWord0_101_v_w_byteAt_out rfl rfl rfl (by decide +kernel) ⟨Nat.le_of_ble_eq_true rfl, Nat.le_of_ble_eq_true rfl⟩) hh rfl rfl hl.1 rfl (Nat.le_of_ble_eq_true rfl) dX10_findWord_14 ⟨Nat.le_of_ble_eq_true rfl, Nat.le_of_ble_eq_true rfl⟩ (fun r5 u4 H locs hp6 hw => ?_)
  obtain ⟨euu4, err5⟩ := hp6
  rw [euu4] at hw
  subst err5
  refine lv_istore_n (lv' := [(2, .int (-1)), (1, .int 0), (0, .ref h)]) cx.1 cx.2.1 dX10_findWord_17 rfl hl (by decide) rfl (fun ls hl => ?_)
  refine lv_iload_n cx.1 cx.2.1 dX10_findWord_18 rfl (lv_at hl 0 rfl) ?_
  refine lv_iconst (v := (-1)) cx.1 cx.2.1 dX10_findWord_19 (by decide) ?_
  refine lv_icmp_ne (tgt := 33) cx.1 cx.2.1 dX10_findWord_20 (by decide) (fun c20_7 => ?_) (fun c20_7 => ?_)
  · exact absurd c20_7 (by decide)
  refine lv_aload_n cx.1 cx.2.1 dX10_findWord_23 rfl (lv_at hl 2 rfl) ?_
  refine lv_iconst (v := 0) cx.1 cx.2.1 dX10_findWord_24 (by decide) ?_
  refine lv_iload_n cx.1 cx.2.1 dX10_findWord_25 rfl (lv_at hl 1 rfl) ?_
  refine lv_lconst (v := 0) cx.1 cx.2.1 dX10_findWord_26 (by decide) ?_
  refine hp_callVv (As := [.int 0, .int 0, .long 0]) (rest := []) cx hw (w_addWord l D cA E _ g h k0 r1 r2 tx 0 mo 0 nx kd wt vv hh c1 f hr hc 0 0 0) (cwV 3 cx.2.2.2.2.2.1 g_w_findWord0_117_v_w_addWord rfl rfl rfl (by decide +kernel) ⟨Nat.le_of_ble_eq_true rfl, Nat.le_of_ble_eq_true rfl⟩) hh rfl rfl hl.1 rfl (Nat.le_of_ble_eq_true rfl) dX10_findWord_27 ⟨Nat.le_of_ble_eq_true rfl, Nat.le_of_ble_eq_true rfl⟩ (fun u8 H locs hp10 hw => ?_)
  obtain ⟨hx13, f11, f12⟩ := hp10
  refine lv_goto (tgt := 79) cx.1 cx.2.1 dX10_findWord_30 (by decide) ?_
  refine lv_aload_n cx.1 cx.2.1 dX10_findWord_79 rfl (lv_at hl 2 rfl) ?_
  have f14 : u8 h = some (.inr (10, [.ref k0, .ref r1, .ref r2, .ref tx, .int 0, .int mo, .int 0, .int nx, .int kd, .int wt, .long vv])) := hx13 _ _ (nm_2 (hp_neOA hh hc) (hp_neK hh hr (by decide))) hh
  refine hp_get (C := RX10) (T := TX10) (N := 11) (ci := 10) cx hw i_w_findWord0_X10 rfl f14 1 (by decide) m_w_findWord0_f20 (v := .ref r1) rfl dX10_findWord_80 ?_
  refine lv_aload_n cx.1 cx.2.1 dX10_findWord_83 rfl (lv_at hl 2 rfl) ?_
  refine hp_get (C := RX10) (T := TX10) (N := 11) (ci := 10) cx hw i_w_findWord0_X10 rfl f14 1 (by decide) m_w_findWord0_f20 (v := .ref r1) rfl dX10_findWord_84 ?_
  refine hp_get (C := RX6) (T := TX6) (N := 2) (ci := 6) cx hw i_w_findWord0_X6 rfl f11 1 (by decide) m_w_findWord0_f133 (v := .int 3) rfl dX10_findWord_87 ?_
  refine lv_iconst (v := 3) cx.1 cx.2.1 dX10_findWord_90 (by decide) ?_
  refine lv_isub cx.1 cx.2.1 dX10_findWord_91 ?_
  refine lv_topi (fun z15 ez15 => ?_)
  obtain rfl : z15 = 0 := ez15.trans (by decide)
  refine hp_callVi (As := [.int 0]) (rest := []) cx hw (k_Row_at l D cA E _ u8 r1 c1 3 192 (w3 f (0 : Int32).toInt64 (0 : Int32).toInt64 0) f11 f12 (by decide) 0) (cwV 1 cx.2.2.2.2.2.1 g_w_findWord0_69_wsX6_at rfl rfl rfl (by decide +kernel) ⟨Nat.le_of_ble_eq_true rfl, Nat.le_of_ble_eq_true rfl⟩) f11 rfl rfl hl.1 rfl (Nat.le_of_ble_eq_true rfl) dX10_findWord_92 ⟨Nat.le_of_ble_eq_true rfl, Nat.le_of_ble_eq_true rfl⟩ (fun r17 u16 H locs hp18 hw => ?_)
  obtain ⟨euu16, err17⟩ := hp18
  rw [euu16] at hw
  obtain rfl : r17 = 0 := err17.trans (by rw [w3_0]; decide)
  refine lv_istore_n (lv' := [(3, .int 0), (2, .int (-1)), (1, .int 0), (0, .ref h)]) cx.1 cx.2.1 dX10_findWord_95 rfl hl (by decide) rfl (fun ls hl => ?_)
  refine lv_iload_n cx.1 cx.2.1 dX10_findWord_96 rfl (lv_at hl 0 rfl) ?_
  refine lv_if_eq (tgt := 109) cx.1 cx.2.1 dX10_findWord_97 (by decide) (fun c97_19 => ?_) (fun c97_19 => ?_)
  rotate_left
  · exact absurd (by decide) c97_19
  refine lv_iconst (v := 0) cx.1 cx.2.1 dX10_findWord_109 (by decide) ?_
  have hxt : hp_extL [c1, r1] g u8 := by
    intro b e hb hg
    have hb0 : b ≠ c1 := fun q => hb (by rw [q]; simp)
    have hb1 : b ≠ r1 := fun q => hb (by rw [q]; simp)
    have b_u8 := hx13 b e (nm_2 (hb0) (hb1)) hg
    exact b_u8
  exact hp_zret cx hw (⟨rfl, hxt, f11, f12⟩) (by decide) dX10_findWord_110

def lk_w_advance0 : List Cond := [Cond.fieldLink RX10 20 "WardenHouse$Words" "found" "LWardenHouse$Row;", Cond.fieldLink RX10 56 "WardenHouse$Words" "next" "I", Cond.methodLink RX10 69 yX6_at, Cond.instanceMethod yX6_at, Cond.selects RX6 yX6_at yX6_at, Cond.initialized RX6, Cond.fieldLink RX10 73 "WardenHouse$Words" "kind" "I", Cond.fieldLink RX10 76 "WardenHouse$Words" "at" "I", Cond.methodLink RX10 78 yX6_get, Cond.instanceMethod yX6_get, Cond.selects RX6 yX6_get yX6_get, Cond.fieldLink RX10 82 "WardenHouse$Words" "value" "J"]
def v_w_advance0 : List Cond := .code yX10_advance cX10_advance 1 none :: (lk_w_advance0 ++ (wsX100 ++ (wsX6_at ++ (wsX6_get ++ []))))
theorem m_w_advance0_f20 : Cond.fieldLink RX10 20 "WardenHouse$Words" "found" "LWardenHouse$Row;" ∈ v_w_advance0 := List.mem_cons_of_mem _ (List.mem_append_left _ (List.mem_of_getElem? (i := 0) rfl))
theorem m_w_advance0_f56 : Cond.fieldLink RX10 56 "WardenHouse$Words" "next" "I" ∈ v_w_advance0 := List.mem_cons_of_mem _ (List.mem_append_left _ (List.mem_of_getElem? (i := 1) rfl))
theorem m_w_advance0_l69 : Cond.methodLink RX10 69 yX6_at ∈ v_w_advance0 := List.mem_cons_of_mem _ (List.mem_append_left _ (List.mem_of_getElem? (i := 2) rfl))
theorem m_w_advance0_j69 : Cond.instanceMethod yX6_at ∈ v_w_advance0 := List.mem_cons_of_mem _ (List.mem_append_left _ (List.mem_of_getElem? (i := 3) rfl))
theorem m_w_advance0_s69 : Cond.selects RX6 yX6_at yX6_at ∈ v_w_advance0 := List.mem_cons_of_mem _ (List.mem_append_left _ (List.mem_of_getElem? (i := 4) rfl))
theorem m_w_advance0_z6 : Cond.initialized RX6 ∈ v_w_advance0 := List.mem_cons_of_mem _ (List.mem_append_left _ (List.mem_of_getElem? (i := 5) rfl))
theorem m_w_advance0_f73 : Cond.fieldLink RX10 73 "WardenHouse$Words" "kind" "I" ∈ v_w_advance0 := List.mem_cons_of_mem _ (List.mem_append_left _ (List.mem_of_getElem? (i := 6) rfl))
theorem m_w_advance0_f76 : Cond.fieldLink RX10 76 "WardenHouse$Words" "at" "I" ∈ v_w_advance0 := List.mem_cons_of_mem _ (List.mem_append_left _ (List.mem_of_getElem? (i := 7) rfl))
theorem m_w_advance0_l78 : Cond.methodLink RX10 78 yX6_get ∈ v_w_advance0 := List.mem_cons_of_mem _ (List.mem_append_left _ (List.mem_of_getElem? (i := 8) rfl))
theorem m_w_advance0_j78 : Cond.instanceMethod yX6_get ∈ v_w_advance0 := List.mem_cons_of_mem _ (List.mem_append_left _ (List.mem_of_getElem? (i := 9) rfl))
theorem m_w_advance0_s78 : Cond.selects RX6 yX6_get yX6_get ∈ v_w_advance0 := List.mem_cons_of_mem _ (List.mem_append_left _ (List.mem_of_getElem? (i := 10) rfl))
theorem m_w_advance0_f82 : Cond.fieldLink RX10 82 "WardenHouse$Words" "value" "J" ∈ v_w_advance0 := List.mem_cons_of_mem _ (List.mem_append_left _ (List.mem_of_getElem? (i := 11) rfl))
theorem i_w_advance0_X10 : ∀ w ∈ wsX100, w ∈ v_w_advance0 := fun _ h => List.mem_cons_of_mem _ (List.mem_append_right _ (List.mem_append_left _ h))
theorem j_w_advance0_wsX6_at : ∀ w ∈ wsX6_at, w ∈ v_w_advance0 := fun _ h => List.mem_cons_of_mem _ (List.mem_append_right _ (List.mem_append_right _ (List.mem_append_left _ h)))
theorem j_w_advance0_wsX6_get : ∀ w ∈ wsX6_get, w ∈ v_w_advance0 := fun _ h => List.mem_cons_of_mem _ (List.mem_append_right _ (List.mem_append_right _ (List.mem_append_right _ (List.mem_append_left _ h))))
theorem gk_w_advance0 : lk_w_advance0.all goodWord = true := by decide +kernel
theorem gd_v_w_advance0 : ∀ w ∈ v_w_advance0, gdW w := fun w h => (List.mem_cons.mp h).elim (fun e => by rw [e]; exact good_of_word rfl) (fun h => (List.mem_append.mp h).elim (fun h => good_of_word (List.all_eq_true.mp gk_w_advance0 w h)) (fun h => (List.mem_append.mp h).elim (gd_wsX100 w) (fun h => (List.mem_append.mp h).elim (gd_wsX6_at w) (fun h => (List.mem_append.mp h).elim (gd_wsX6_get w) (fun h => nomatch h)))))
theorem g_w_advance0_69_wsX6_at : GoodIn v_w_advance0 (wsV RX10 69 RX6 yX6_at wsX6_at) := goodIn_app (fun w h => (fun h => (List.mem_cons.mp h).elim (fun e => by rw [e]; exact ⟨m_w_advance0_l69, good_of_word rfl⟩) (fun h => (List.mem_cons.mp h).elim (fun e => by rw [e]; exact ⟨m_w_advance0_j69, good_of_word rfl⟩) (fun h => (List.mem_cons.mp h).elim (fun e => by rw [e]; exact ⟨m_w_advance0_s69, good_of_word rfl⟩) (fun h => (List.mem_cons.mp h).elim (fun e => by rw [e]; exact ⟨m_w_advance0_z6, good_of_word rfl⟩) (fun h => nomatch h))))) h) (fun w h => ⟨j_w_advance0_wsX6_at w h, gd_wsX6_at w h⟩)
theorem g_w_advance0_78_wsX6_get : GoodIn v_w_advance0 (wsV RX10 78 RX6 yX6_get wsX6_get) := goodIn_app (fun w h => (fun h => (List.mem_cons.mp h).elim (fun e => by rw [e]; exact ⟨m_w_advance0_l78, good_of_word rfl⟩) (fun h => (List.mem_cons.mp h).elim (fun e => by rw [e]; exact ⟨m_w_advance0_j78, good_of_word rfl⟩) (fun h => (List.mem_cons.mp h).elim (fun e => by rw [e]; exact ⟨m_w_advance0_s78, good_of_word rfl⟩) (fun h => (List.mem_cons.mp h).elim (fun e => by rw [e]; exact ⟨m_w_advance0_z6, good_of_word rfl⟩) (fun h => nomatch h))))) h) (fun w h => ⟨j_w_advance0_wsX6_get w h, gd_wsX6_get w h⟩)
set_option maxHeartbeats 4000000 in
set_option maxRecDepth 100000 in
theorem w_advance0 (l : Launch) (D : va_G) (cA : Nat → ClassId) (E : hp_N) (sz : Nat) (g : hp_M) (h k0 r1 r2 tx : Nat) (z mo pl kd wt : Int32) (vv : Int64) (hh : g h = some (.inr (10, [.ref k0, .ref r1, .ref r2, .ref tx, .int z, .int mo, .int pl, .int 0, .int kd, .int wt, .long vv]))) (c1 : Nat) (f : Nat → Int64) (hr : g r1 = some (.inr (6, [.ref c1, .int 3]))) (hc : g c1 = some (.inl (cA 2, 192, .inr (.inl (w3 f (0 : Int32).toInt64 (0 : Int32).toInt64 0))))) : Met l yX10_advance v_w_advance0 ({ frames := 1, cells := 0, slots := 0, locals := 22 }) (hp_Pc D vwCl (hp_Tl cA) E sz g [.ref h]) (hp_Qv D vwCl (hp_Tl cA) sz g (fun u => hp_extL [h] g u ∧ u h = some (.inr (10, [.ref k0, .ref r1, .ref r2, .ref tx, .int z, .int mo, .int pl, .int 1, .int 0, .int 0, .long 0])))) 0 0 (hp_A g sz) := by
  refine hp_ofW (cc := cX10_advance) (maxL := 1) (ret := none) (by decide) rfl (Nat.le_of_ble_eq_true rfl) ?_
  intro pp ee ss mm bb mt cd ls cx hsz hw hl
  have hl : lv_has ls 1 [(0, .ref h)] := hl
  refine lv_aload_n cx.1 cx.2.1 dX10_advance_0 rfl (lv_at hl 0 rfl) ?_
  refine lv_aload_n cx.1 cx.2.1 dX10_advance_1 rfl (lv_at hl 0 rfl) ?_
  refine hp_get (C := RX10) (T := TX10) (N := 11) (ci := 10) cx hw i_w_advance0_X10 rfl hh 1 (by decide) m_w_advance0_f20 (v := .ref r1) rfl dX10_advance_2 ?_
  refine lv_aload_n cx.1 cx.2.1 dX10_advance_5 rfl (lv_at hl 0 rfl) ?_
  refine hp_get (C := RX10) (T := TX10) (N := 11) (ci := 10) cx hw i_w_advance0_X10 rfl hh 7 (by decide) m_w_advance0_f56 (v := .int 0) rfl dX10_advance_6 ?_
  refine lv_iconst (v := 3) cx.1 cx.2.1 dX10_advance_9 (by decide) ?_
  refine lv_imul cx.1 cx.2.1 dX10_advance_10 ?_
  refine lv_topi (fun z1 ez1 => ?_)
  obtain rfl : z1 = 0 := ez1.trans (by decide)
  refine hp_callVi (As := [.int 0]) (rest := [.ref h]) cx hw (k_Row_at l D cA E _ g r1 c1 3 192 (w3 f (0 : Int32).toInt64 (0 : Int32).toInt64 0) hr hc (by decide) 0) (cwV 1 cx.2.2.2.2.2.1 g_w_advance0_69_wsX6_at rfl rfl rfl (by decide +kernel) ⟨Nat.le_of_ble_eq_true rfl, Nat.le_of_ble_eq_true rfl⟩) hr rfl rfl hl.1 rfl (Nat.le_of_ble_eq_true rfl) dX10_advance_11 ⟨Nat.le_of_ble_eq_true rfl, Nat.le_of_ble_eq_true rfl⟩ (fun r3 u2 H locs hp4 hw => ?_)
  obtain ⟨euu2, err3⟩ := hp4
  rw [euu2] at hw
  obtain rfl : r3 = 0 := err3.trans (by rw [w3_0]; decide)
  refine hp_put (C := RX10) (T := TX10) (N := 11) (ci := 10) (fs' := [.ref k0, .ref r1, .ref r2, .ref tx, .int z, .int mo, .int pl, .int 0, .int 0, .int wt, .long vv]) cx hw i_w_advance0_X10 tyX10_ok nmX10 rfl hh 8 (by decide) m_w_advance0_f73 rfl  rfl rfl (Nat.le_of_ble_eq_true rfl) rfl dX10_advance_14 (fun g5 H locs eg5 hw => ?_)
  have f6 : g5 h = some (.inr (10, [.ref k0, .ref r1, .ref r2, .ref tx, .int z, .int mo, .int pl, .int 0, .int 0, .int wt, .long vv])) := (by rw [eg5]; exact hp_up_self _ _ _)
  refine lv_aload_n cx.1 cx.2.1 dX10_advance_17 rfl (lv_at hl 0 rfl) ?_
  refine lv_aload_n cx.1 cx.2.1 dX10_advance_18 rfl (lv_at hl 0 rfl) ?_
  refine hp_get (C := RX10) (T := TX10) (N := 11) (ci := 10) cx hw i_w_advance0_X10 rfl f6 1 (by decide) m_w_advance0_f20 (v := .ref r1) rfl dX10_advance_19 ?_
  refine lv_aload_n cx.1 cx.2.1 dX10_advance_22 rfl (lv_at hl 0 rfl) ?_
  refine hp_get (C := RX10) (T := TX10) (N := 11) (ci := 10) cx hw i_w_advance0_X10 rfl f6 7 (by decide) m_w_advance0_f56 (v := .int 0) rfl dX10_advance_23 ?_
  refine lv_iconst (v := 3) cx.1 cx.2.1 dX10_advance_26 (by decide) ?_
  refine lv_imul cx.1 cx.2.1 dX10_advance_27 ?_
  refine lv_topi (fun z7 ez7 => ?_)
  obtain rfl : z7 = 0 := ez7.trans (by decide)
  refine lv_iconst (v := 1) cx.1 cx.2.1 dX10_advance_28 (by decide) ?_
  refine lv_iadd cx.1 cx.2.1 dX10_advance_29 ?_
  refine lv_topi (fun z8 ez8 => ?_)
  obtain rfl : z8 = 1 := ez8.trans (by decide)
  have f9 : g5 r1 = some (.inr (6, [.ref c1, .int 3])) := (by rw [eg5]; exact (hp_up_ne _ _ (hp_neK hr hh (by decide))).trans hr)
  have f10 : g5 c1 = some (.inl (cA 2, 192, .inr (.inl (w3 f (0 : Int32).toInt64 (0 : Int32).toInt64 0)))) := (by rw [eg5]; exact (hp_up_ne _ _ (hp_neAO hc hh)).trans hc)
  refine hp_callVi (As := [.int 1]) (rest := [.ref h]) cx hw (k_Row_at l D cA E _ g5 r1 c1 3 192 (w3 f (0 : Int32).toInt64 (0 : Int32).toInt64 0) f9 f10 (by decide) 1) (cwV 1 cx.2.2.2.2.2.1 g_w_advance0_69_wsX6_at rfl rfl rfl (by decide +kernel) ⟨Nat.le_of_ble_eq_true rfl, Nat.le_of_ble_eq_true rfl⟩) f9 rfl rfl hl.1 rfl (Nat.le_of_ble_eq_true rfl) dX10_advance_30 ⟨Nat.le_of_ble_eq_true rfl, Nat.le_of_ble_eq_true rfl⟩ (fun r12 u11 H locs hp13 hw => ?_)
  obtain ⟨euu11, err12⟩ := hp13
  rw [euu11] at hw
  obtain rfl : r12 = 0 := err12.trans (by rw [w3_1]; decide)
  refine hp_put (C := RX10) (T := TX10) (N := 11) (ci := 10) (fs' := [.ref k0, .ref r1, .ref r2, .ref tx, .int z, .int mo, .int pl, .int 0, .int 0, .int 0, .long vv]) cx hw i_w_advance0_X10 tyX10_ok nmX10 rfl f6 9 (by decide) m_w_advance0_f76 rfl  rfl rfl (Nat.le_of_ble_eq_true rfl) rfl dX10_advance_33 (fun g14 H locs eg14 hw => ?_)
  have f15 : g14 h = some (.inr (10, [.ref k0, .ref r1, .ref r2, .ref tx, .int z, .int mo, .int pl, .int 0, .int 0, .int 0, .long vv])) := (by rw [eg14]; exact hp_up_self _ _ _)
  refine lv_aload_n cx.1 cx.2.1 dX10_advance_36 rfl (lv_at hl 0 rfl) ?_
  refine lv_aload_n cx.1 cx.2.1 dX10_advance_37 rfl (lv_at hl 0 rfl) ?_
  refine hp_get (C := RX10) (T := TX10) (N := 11) (ci := 10) cx hw i_w_advance0_X10 rfl f15 1 (by decide) m_w_advance0_f20 (v := .ref r1) rfl dX10_advance_38 ?_
  refine lv_aload_n cx.1 cx.2.1 dX10_advance_41 rfl (lv_at hl 0 rfl) ?_
  refine hp_get (C := RX10) (T := TX10) (N := 11) (ci := 10) cx hw i_w_advance0_X10 rfl f15 7 (by decide) m_w_advance0_f56 (v := .int 0) rfl dX10_advance_42 ?_
  refine lv_iconst (v := 3) cx.1 cx.2.1 dX10_advance_45 (by decide) ?_
  refine lv_imul cx.1 cx.2.1 dX10_advance_46 ?_
  refine lv_topi (fun z16 ez16 => ?_)
  obtain rfl : z16 = 0 := ez16.trans (by decide)
  refine lv_iconst (v := 2) cx.1 cx.2.1 dX10_advance_47 (by decide) ?_
  refine lv_iadd cx.1 cx.2.1 dX10_advance_48 ?_
  refine lv_topi (fun z17 ez17 => ?_)
  obtain rfl : z17 = 2 := ez17.trans (by decide)
  have f18 : g14 r1 = some (.inr (6, [.ref c1, .int 3])) := (by rw [eg14]; exact (hp_up_ne _ _ (hp_neK f9 f6 (by decide))).trans f9)
  have f19 : g14 c1 = some (.inl (cA 2, 192, .inr (.inl (w3 f (0 : Int32).toInt64 (0 : Int32).toInt64 0)))) := (by rw [eg14]; exact (hp_up_ne _ _ (hp_neAO f10 f6)).trans f10)
  refine hp_callVl (As := [.int 2]) (rest := [.ref h]) cx hw (k_Row_get l D cA E _ g14 r1 c1 3 192 (w3 f (0 : Int32).toInt64 (0 : Int32).toInt64 0) f18 f19 (by decide) 2) (cwV 1 cx.2.2.2.2.2.1 g_w_advance0_78_wsX6_get rfl rfl rfl (by decide +kernel) ⟨Nat.le_of_ble_eq_true rfl, Nat.le_of_ble_eq_true rfl⟩) f18 rfl rfl hl.1 rfl (Nat.le_of_ble_eq_true rfl) dX10_advance_49 ⟨Nat.le_of_ble_eq_true rfl, Nat.le_of_ble_eq_true rfl⟩ (fun r21 u20 H locs hp22 hw => ?_)
  obtain ⟨euu20, err21⟩ := hp22
  rw [euu20] at hw
  obtain rfl : r21 = 0 := err21.trans w3_2
  refine hp_put (C := RX10) (T := TX10) (N := 11) (ci := 10) (fs' := [.ref k0, .ref r1, .ref r2, .ref tx, .int z, .int mo, .int pl, .int 0, .int 0, .int 0, .long 0]) cx hw i_w_advance0_X10 tyX10_ok nmX10 rfl f15 10 (by decide) m_w_advance0_f82 rfl  rfl rfl (Nat.le_of_ble_eq_true rfl) rfl dX10_advance_52 (fun g23 H locs eg23 hw => ?_)
  have f24 : g23 h = some (.inr (10, [.ref k0, .ref r1, .ref r2, .ref tx, .int z, .int mo, .int pl, .int 0, .int 0, .int 0, .long 0])) := (by rw [eg23]; exact hp_up_self _ _ _)
  refine lv_aload_n cx.1 cx.2.1 dX10_advance_55 rfl (lv_at hl 0 rfl) ?_
  refine lv_dup cx.1 cx.2.1 dX10_advance_56 rfl ?_
  refine hp_get (C := RX10) (T := TX10) (N := 11) (ci := 10) cx hw i_w_advance0_X10 rfl f24 7 (by decide) m_w_advance0_f56 (v := .int 0) rfl dX10_advance_57 ?_
  refine lv_iconst (v := 1) cx.1 cx.2.1 dX10_advance_60 (by decide) ?_
  refine lv_iadd cx.1 cx.2.1 dX10_advance_61 ?_
  refine lv_topi (fun z25 ez25 => ?_)
  obtain rfl : z25 = 1 := ez25.trans (by decide)
  refine hp_put (C := RX10) (T := TX10) (N := 11) (ci := 10) (fs' := [.ref k0, .ref r1, .ref r2, .ref tx, .int z, .int mo, .int pl, .int 1, .int 0, .int 0, .long 0]) cx hw i_w_advance0_X10 tyX10_ok nmX10 rfl f24 7 (by decide) m_w_advance0_f56 rfl  rfl rfl (Nat.le_of_ble_eq_true rfl) rfl dX10_advance_62 (fun g26 H locs eg26 hw => ?_)
  have f27 : g26 h = some (.inr (10, [.ref k0, .ref r1, .ref r2, .ref tx, .int z, .int mo, .int pl, .int 1, .int 0, .int 0, .long 0])) := (by rw [eg26]; exact hp_up_self _ _ _)
  have hxt : hp_extL [h] g g26 := by
    intro b e hb hg
    have hb0 : b ≠ h := fun q => hb (by rw [q]; simp)
    have b_g5 : g5 b = some e := by rw [eg5]; exact (hp_up_ne _ _ (hb0)).trans hg
    have b_g14 : g14 b = some e := by rw [eg14]; exact (hp_up_ne _ _ (hb0)).trans b_g5
    have b_g23 : g23 b = some e := by rw [eg23]; exact (hp_up_ne _ _ (hb0)).trans b_g14
    have b_g26 : g26 b = some e := by rw [eg26]; exact (hp_up_ne _ _ (hb0)).trans b_g23
    exact b_g26
  exact hp_vret cx hw (⟨hxt, f27⟩) dX10_advance_65

def lk_w_begin0 : List Cond := [Cond.fieldLink RX10 27 "WardenHouse$Words" "text" "[B", Cond.fieldLink RX10 47 "WardenHouse$Words" "length" "I", Cond.fieldLink RX10 50 "WardenHouse$Words" "mostSteps" "I", Cond.fieldLink RX10 53 "WardenHouse$Words" "place" "I", Cond.fieldLink RX10 56 "WardenHouse$Words" "next" "I", Cond.fieldLink RX10 20 "WardenHouse$Words" "found" "LWardenHouse$Row;", Cond.methodLink RX10 59 yX6_cut, Cond.instanceMethod yX6_cut, Cond.selects RX6 yX6_cut yX6_cut, Cond.initialized RX6, Cond.fieldLink RX10 24 "WardenHouse$Words" "patterns" "LWardenHouse$Row;", Cond.methodLink RX10 62 yX10_findWord, Cond.instanceMethod yX10_findWord, Cond.selects RX10 yX10_findWord yX10_findWord, Cond.initialized RX10, Cond.methodLink RX10 66 yX10_advance, Cond.instanceMethod yX10_advance, Cond.selects RX10 yX10_advance yX10_advance]
def v_w_begin0 : List Cond := .code yX10_begin cX10_begin 6 none :: (lk_w_begin0 ++ (wsX100 ++ (wsX6_cut ++ (v_w_findWord0 ++ (v_w_advance0 ++ [])))))
theorem m_w_begin0_f27 : Cond.fieldLink RX10 27 "WardenHouse$Words" "text" "[B" ∈ v_w_begin0 := List.mem_cons_of_mem _ (List.mem_append_left _ (List.mem_of_getElem? (i := 0) rfl))
theorem m_w_begin0_f47 : Cond.fieldLink RX10 47 "WardenHouse$Words" "length" "I" ∈ v_w_begin0 := List.mem_cons_of_mem _ (List.mem_append_left _ (List.mem_of_getElem? (i := 1) rfl))
theorem m_w_begin0_f50 : Cond.fieldLink RX10 50 "WardenHouse$Words" "mostSteps" "I" ∈ v_w_begin0 := List.mem_cons_of_mem _ (List.mem_append_left _ (List.mem_of_getElem? (i := 2) rfl))
theorem m_w_begin0_f53 : Cond.fieldLink RX10 53 "WardenHouse$Words" "place" "I" ∈ v_w_begin0 := List.mem_cons_of_mem _ (List.mem_append_left _ (List.mem_of_getElem? (i := 3) rfl))
theorem m_w_begin0_f56 : Cond.fieldLink RX10 56 "WardenHouse$Words" "next" "I" ∈ v_w_begin0 := List.mem_cons_of_mem _ (List.mem_append_left _ (List.mem_of_getElem? (i := 4) rfl))
theorem m_w_begin0_f20 : Cond.fieldLink RX10 20 "WardenHouse$Words" "found" "LWardenHouse$Row;" ∈ v_w_begin0 := List.mem_cons_of_mem _ (List.mem_append_left _ (List.mem_of_getElem? (i := 5) rfl))
theorem m_w_begin0_l59 : Cond.methodLink RX10 59 yX6_cut ∈ v_w_begin0 := List.mem_cons_of_mem _ (List.mem_append_left _ (List.mem_of_getElem? (i := 6) rfl))
theorem m_w_begin0_j59 : Cond.instanceMethod yX6_cut ∈ v_w_begin0 := List.mem_cons_of_mem _ (List.mem_append_left _ (List.mem_of_getElem? (i := 7) rfl))
theorem m_w_begin0_s59 : Cond.selects RX6 yX6_cut yX6_cut ∈ v_w_begin0 := List.mem_cons_of_mem _ (List.mem_append_left _ (List.mem_of_getElem? (i := 8) rfl))
theorem m_w_begin0_z6 : Cond.initialized RX6 ∈ v_w_begin0 := List.mem_cons_of_mem _ (List.mem_append_left _ (List.mem_of_getElem? (i := 9) rfl))
theorem m_w_begin0_f24 : Cond.fieldLink RX10 24 "WardenHouse$Words" "patterns" "LWardenHouse$Row;" ∈ v_w_begin0 := List.mem_cons_of_mem _ (List.mem_append_left _ (List.mem_of_getElem? (i := 10) rfl))
theorem m_w_begin0_l62 : Cond.methodLink RX10 62 yX10_findWord ∈ v_w_begin0 := List.mem_cons_of_mem _ (List.mem_append_left _ (List.mem_of_getElem? (i := 11) rfl))
theorem m_w_begin0_j62 : Cond.instanceMethod yX10_findWord ∈ v_w_begin0 := List.mem_cons_of_mem _ (List.mem_append_left _ (List.mem_of_getElem? (i := 12) rfl))
theorem m_w_begin0_s62 : Cond.selects RX10 yX10_findWord yX10_findWord ∈ v_w_begin0 := List.mem_cons_of_mem _ (List.mem_append_left _ (List.mem_of_getElem? (i := 13) rfl))
theorem m_w_begin0_z10 : Cond.initialized RX10 ∈ v_w_begin0 := List.mem_cons_of_mem _ (List.mem_append_left _ (List.mem_of_getElem? (i := 14) rfl))
theorem m_w_begin0_l66 : Cond.methodLink RX10 66 yX10_advance ∈ v_w_begin0 := List.mem_cons_of_mem _ (List.mem_append_left _ (List.mem_of_getElem? (i := 15) rfl))
theorem m_w_begin0_j66 : Cond.instanceMethod yX10_advance ∈ v_w_begin0 := List.mem_cons_of_mem _ (List.mem_append_left _ (List.mem_of_getElem? (i := 16) rfl))
theorem m_w_begin0_s66 : Cond.selects RX10 yX10_advance yX10_advance ∈ v_w_begin0 := List.mem_cons_of_mem _ (List.mem_append_left _ (List.mem_of_getElem? (i := 17) rfl))
theorem i_w_begin0_X10 : ∀ w ∈ wsX100, w ∈ v_w_begin0 := fun _ h => List.mem_cons_of_mem _ (List.mem_append_right _ (List.mem_append_left _ h))
theorem j_w_begin0_wsX6_cut : ∀ w ∈ wsX6_cut, w ∈ v_w_begin0 := fun _ h => List.mem_cons_of_mem _ (List.mem_append_right _ (List.mem_append_right _ (List.mem_append_left _ h)))
theorem j_w_begin0_v_w_findWord0 : ∀ w ∈ v_w_findWord0, w ∈ v_w_begin0 := fun _ h => List.mem_cons_of_mem _ (List.mem_append_right _ (List.mem_append_right _ (List.mem_append_right _ (List.mem_append_left _ h))))
theorem j_w_begin0_v_w_advance0 : ∀ w ∈ v_w_advance0, w ∈ v_w_begin0 := fun _ h => List.mem_cons_of_mem _ (List.mem_append_right _ (List.mem_append_right _ (List.mem_append_right _ (List.mem_append_right _ (List.mem_append_left _ h)))))
theorem gk_w_begin0 : lk_w_begin0.all goodWord = true := by decide +kernel
theorem gd_v_w_begin0 : ∀ w ∈ v_w_begin0, gdW w := fun w h => (List.mem_cons.mp h).elim (fun e => by rw [e]; exact good_of_word rfl) (fun h => (List.mem_append.mp h).elim (fun h => good_of_word (List.all_eq_true.mp gk_w_begin0 w h)) (fun h => (List.mem_append.mp h).elim (gd_wsX100 w) (fun h => (List.mem_append.mp h).elim (gd_wsX6_cut w) (fun h => (List.mem_append.mp h).elim (gd_v_w_findWord0 w) (fun h => (List.mem_append.mp h).elim (gd_v_w_advance0 w) (fun h => nomatch h))))))
theorem g_w_begin0_59_wsX6_cut : GoodIn v_w_begin0 (wsV RX10 59 RX6 yX6_cut wsX6_cut) := goodIn_app (fun w h => (fun h => (List.mem_cons.mp h).elim (fun e => by rw [e]; exact ⟨m_w_begin0_l59, good_of_word rfl⟩) (fun h => (List.mem_cons.mp h).elim (fun e => by rw [e]; exact ⟨m_w_begin0_j59, good_of_word rfl⟩) (fun h => (List.mem_cons.mp h).elim (fun e => by rw [e]; exact ⟨m_w_begin0_s59, good_of_word rfl⟩) (fun h => (List.mem_cons.mp h).elim (fun e => by rw [e]; exact ⟨m_w_begin0_z6, good_of_word rfl⟩) (fun h => nomatch h))))) h) (fun w h => ⟨j_w_begin0_wsX6_cut w h, gd_wsX6_cut w h⟩)
theorem g_w_begin0_62_v_w_findWord0 : GoodIn v_w_begin0 (wsV RX10 62 RX10 yX10_findWord v_w_findWord0) := goodIn_app (fun w h => (fun h => (List.mem_cons.mp h).elim (fun e => by rw [e]; exact ⟨m_w_begin0_l62, good_of_word rfl⟩) (fun h => (List.mem_cons.mp h).elim (fun e => by rw [e]; exact ⟨m_w_begin0_j62, good_of_word rfl⟩) (fun h => (List.mem_cons.mp h).elim (fun e => by rw [e]; exact ⟨m_w_begin0_s62, good_of_word rfl⟩) (fun h => (List.mem_cons.mp h).elim (fun e => by rw [e]; exact ⟨m_w_begin0_z10, good_of_word rfl⟩) (fun h => nomatch h))))) h) (fun w h => ⟨j_w_begin0_v_w_findWord0 w h, gd_v_w_findWord0 w h⟩)
theorem g_w_begin0_66_v_w_advance0 : GoodIn v_w_begin0 (wsV RX10 66 RX10 yX10_advance v_w_advance0) := goodIn_app (fun w h => (fun h => (List.mem_cons.mp h).elim (fun e => by rw [e]; exact ⟨m_w_begin0_l66, good_of_word rfl⟩) (fun h => (List.mem_cons.mp h).elim (fun e => by rw [e]; exact ⟨m_w_begin0_j66, good_of_word rfl⟩) (fun h => (List.mem_cons.mp h).elim (fun e => by rw [e]; exact ⟨m_w_begin0_s66, good_of_word rfl⟩) (fun h => (List.mem_cons.mp h).elim (fun e => by rw [e]; exact ⟨m_w_begin0_z10, good_of_word rfl⟩) (fun h => nomatch h))))) h) (fun w h => ⟨j_w_begin0_v_w_advance0 w h, gd_v_w_advance0 w h⟩)
set_option maxHeartbeats 4000000 in
set_option maxRecDepth 100000 in
theorem w_begin0 (l : Launch) (D : va_G) (cA : Nat → ClassId) (E : hp_N) (sz : Nat) (g : hp_M) (h k0 r1 r2 tx : Nat) (z mo pl nx kd wt : Int32) (vv : Int64) (hh : g h = some (.inr (10, [.ref k0, .ref r1, .ref r2, .ref tx, .int z, .int mo, .int pl, .int nx, .int kd, .int wt, .long vv]))) (c1 : Nat) (f : Nat → Int64) (hr : g r1 = some (.inr (6, [.ref c1, .int 0]))) (hc : g c1 = some (.inl (cA 2, 192, .inr (.inl f)))) (c2 : Nat) (hr2 : g r2 = some (.inr (6, [.ref c2, .int 0]))) (hne : r1 ≠ r2) (bt : Nat) (sp : Int32) : Met l yX10_begin v_w_begin0 ({ frames := 3, cells := 0, slots := 0, locals := 80 }) (hp_Pc D vwCl (hp_Tl cA) E sz g [.ref h, .ref bt, .int 0, .int sp]) (hp_Qv D vwCl (hp_Tl cA) sz g (fun u => hp_extL [h, c1, r1, r2] g u ∧ u h = some (.inr (10, [.ref k0, .ref r1, .ref r2, .ref bt, .int 0, .int sp, .int 0, .int 1, .int 0, .int 0, .long 0])))) 0 0 (hp_A g sz) := by
  refine hp_ofW (cc := cX10_begin) (maxL := 6) (ret := none) (by decide) rfl (Nat.le_of_ble_eq_true rfl) ?_
  intro pp ee ss mm bb mt cd ls cx hsz hw hl
  have hl : lv_has ls 6 [(0, .ref h), (1, .ref bt), (2, .int 0), (3, .int sp)] := hl
  refine lv_aload_n cx.1 cx.2.1 dX10_begin_0 rfl (lv_at hl 0 rfl) ?_
  refine lv_aload_n cx.1 cx.2.1 dX10_begin_1 rfl (lv_at hl 1 rfl) ?_
  refine hp_put (C := RX10) (T := TX10) (N := 11) (ci := 10) (fs' := [.ref k0, .ref r1, .ref r2, .ref bt, .int z, .int mo, .int pl, .int nx, .int kd, .int wt, .long vv]) cx hw i_w_begin0_X10 tyX10_ok nmX10 rfl hh 3 (by decide) m_w_begin0_f27 rfl  rfl rfl (Nat.le_of_ble_eq_true rfl) rfl dX10_begin_2 (fun g1 H locs eg1 hw => ?_)
  have f2 : g1 h = some (.inr (10, [.ref k0, .ref r1, .ref r2, .ref bt, .int z, .int mo, .int pl, .int nx, .int kd, .int wt, .long vv])) := (by rw [eg1]; exact hp_up_self _ _ _)
  refine lv_aload_n cx.1 cx.2.1 dX10_begin_5 rfl (lv_at hl 0 rfl) ?_
  refine lv_iload_n cx.1 cx.2.1 dX10_begin_6 rfl (lv_at hl 2 rfl) ?_
  refine hp_put (C := RX10) (T := TX10) (N := 11) (ci := 10) (fs' := [.ref k0, .ref r1, .ref r2, .ref bt, .int 0, .int mo, .int pl, .int nx, .int kd, .int wt, .long vv]) cx hw i_w_begin0_X10 tyX10_ok nmX10 rfl f2 4 (by decide) m_w_begin0_f47 rfl  rfl rfl (Nat.le_of_ble_eq_true rfl) rfl dX10_begin_7 (fun g3 H locs eg3 hw => ?_)
  have f4 : g3 h = some (.inr (10, [.ref k0, .ref r1, .ref r2, .ref bt, .int 0, .int mo, .int pl, .int nx, .int kd, .int wt, .long vv])) := (by rw [eg3]; exact hp_up_self _ _ _)
  refine lv_aload_n cx.1 cx.2.1 dX10_begin_10 rfl (lv_at hl 0 rfl) ?_
  refine lv_iload_n cx.1 cx.2.1 dX10_begin_11 rfl (lv_at hl 3 rfl) ?_
  refine hp_put (C := RX10) (T := TX10) (N := 11) (ci := 10) (fs' := [.ref k0, .ref r1, .ref r2, .ref bt, .int 0, .int sp, .int pl, .int nx, .int kd, .int wt, .long vv]) cx hw i_w_begin0_X10 tyX10_ok nmX10 rfl f4 5 (by decide) m_w_begin0_f50 rfl  rfl rfl (Nat.le_of_ble_eq_true rfl) rfl dX10_begin_12 (fun g5 H locs eg5 hw => ?_)
  have f6 : g5 h = some (.inr (10, [.ref k0, .ref r1, .ref r2, .ref bt, .int 0, .int sp, .int pl, .int nx, .int kd, .int wt, .long vv])) := (by rw [eg5]; exact hp_up_self _ _ _)
  refine lv_aload_n cx.1 cx.2.1 dX10_begin_15 rfl (lv_at hl 0 rfl) ?_
  refine lv_iconst (v := 0) cx.1 cx.2.1 dX10_begin_16 (by decide) ?_
  refine hp_put (C := RX10) (T := TX10) (N := 11) (ci := 10) (fs' := [.ref k0, .ref r1, .ref r2, .ref bt, .int 0, .int sp, .int 0, .int nx, .int kd, .int wt, .long vv]) cx hw i_w_begin0_X10 tyX10_ok nmX10 rfl f6 6 (by decide) m_w_begin0_f53 rfl  rfl rfl (Nat.le_of_ble_eq_true rfl) rfl dX10_begin_17 (fun g7 H locs eg7 hw => ?_)
  have f8 : g7 h = some (.inr (10, [.ref k0, .ref r1, .ref r2, .ref bt, .int 0, .int sp, .int 0, .int nx, .int kd, .int wt, .long vv])) := (by rw [eg7]; exact hp_up_self _ _ _)
  refine lv_aload_n cx.1 cx.2.1 dX10_begin_20 rfl (lv_at hl 0 rfl) ?_
  refine lv_iconst (v := 0) cx.1 cx.2.1 dX10_begin_21 (by decide) ?_
  refine hp_put (C := RX10) (T := TX10) (N := 11) (ci := 10) (fs' := [.ref k0, .ref r1, .ref r2, .ref bt, .int 0, .int sp, .int 0, .int 0, .int kd, .int wt, .long vv]) cx hw i_w_begin0_X10 tyX10_ok nmX10 rfl f8 7 (by decide) m_w_begin0_f56 rfl  rfl rfl (Nat.le_of_ble_eq_true rfl) rfl dX10_begin_22 (fun g9 H locs eg9 hw => ?_)
  have f10 : g9 h = some (.inr (10, [.ref k0, .ref r1, .ref r2, .ref bt, .int 0, .int sp, .int 0, .int 0, .int kd, .int wt, .long vv])) := (by rw [eg9]; exact hp_up_self _ _ _)
  refine lv_aload_n cx.1 cx.2.1 dX10_begin_25 rfl (lv_at hl 0 rfl) ?_
  refine hp_get (C := RX10) (T := TX10) (N := 11) (ci := 10) cx hw i_w_begin0_X10 rfl f10 1 (by decide) m_w_begin0_f20 (v := .ref r1) rfl dX10_begin_26 ?_
  refine lv_iconst (v := 0) cx.1 cx.2.1 dX10_begin_29 (by decide) ?_
  have f11 : g1 r1 = some (.inr (6, [.ref c1, .int 0])) := (by rw [eg1]; exact (hp_up_ne _ _ (hp_neK hr hh (by decide))).trans hr)
  have f12 : g3 r1 = some (.inr (6, [.ref c1, .int 0])) := (by rw [eg3]; exact (hp_up_ne _ _ (hp_neK f11 f2 (by decide))).trans f11)
  have f13 : g5 r1 = some (.inr (6, [.ref c1, .int 0])) := (by rw [eg5]; exact (hp_up_ne _ _ (hp_neK f12 f4 (by decide))).trans f12)
  have f14 : g7 r1 = some (.inr (6, [.ref c1, .int 0])) := (by rw [eg7]; exact (hp_up_ne _ _ (hp_neK f13 f6 (by decide))).trans f13)
  have f15 : g9 r1 = some (.inr (6, [.ref c1, .int 0])) := (by rw [eg9]; exact (hp_up_ne _ _ (hp_neK f14 f8 (by decide))).trans f14)
  refine hp_callVv (As := [.int 0]) (rest := []) cx hw (k_Row_cut0 l D cA E _ g9 r1 (.ref c1) 0 f15 (by decide)) (cwV 1 cx.2.2.2.2.2.1 g_w_begin0_59_wsX6_cut rfl rfl rfl (by decide +kernel) ⟨Nat.le_of_ble_eq_true rfl, Nat.le_of_ble_eq_true rfl⟩) f15 rfl rfl hl.1 rfl (Nat.le_of_ble_eq_true rfl) dX10_begin_30 ⟨Nat.le_of_ble_eq_true rfl, Nat.le_of_ble_eq_true rfl⟩ (fun u16 H locs hp18 hw => ?_)
  have eu16 := hp18
  have f19 : u16 r1 = some (.inr (6, [.ref c1, .int 0])) := (by rw [eu16]; exact hp_up_self _ _ _)
  refine lv_aload_n cx.1 cx.2.1 dX10_begin_33 rfl (lv_at hl 0 rfl) ?_
  have f20 : u16 h = some (.inr (10, [.ref k0, .ref r1, .ref r2, .ref bt, .int 0, .int sp, .int 0, .int 0, .int kd, .int wt, .long vv])) := (by rw [eu16]; exact (hp_up_ne _ _ (hp_neK f10 f15 (by decide))).trans f10)
  refine hp_get (C := RX10) (T := TX10) (N := 11) (ci := 10) cx hw i_w_begin0_X10 rfl f20 2 (by decide) m_w_begin0_f24 (v := .ref r2) rfl dX10_begin_34 ?_
  refine lv_iconst (v := 0) cx.1 cx.2.1 dX10_begin_37 (by decide) ?_
  have f21 : g1 r2 = some (.inr (6, [.ref c2, .int 0])) := (by rw [eg1]; exact (hp_up_ne _ _ (hp_neK hr2 hh (by decide))).trans hr2)
  have f22 : g3 r2 = some (.inr (6, [.ref c2, .int 0])) := (by rw [eg3]; exact (hp_up_ne _ _ (hp_neK f21 f2 (by decide))).trans f21)
  have f23 : g5 r2 = some (.inr (6, [.ref c2, .int 0])) := (by rw [eg5]; exact (hp_up_ne _ _ (hp_neK f22 f4 (by decide))).trans f22)
  have f24 : g7 r2 = some (.inr (6, [.ref c2, .int 0])) := (by rw [eg7]; exact (hp_up_ne _ _ (hp_neK f23 f6 (by decide))).trans f23)
  have f25 : g9 r2 = some (.inr (6, [.ref c2, .int 0])) := (by rw [eg9]; exact (hp_up_ne _ _ (hp_neK f24 f8 (by decide))).trans f24)
  have f26 : u16 r2 = some (.inr (6, [.ref c2, .int 0])) := (by rw [eu16]; exact (hp_up_ne _ _ ((Ne.symm (hne)))).trans f25)
  refine hp_callVv (As := [.int 0]) (rest := []) cx hw (k_Row_cut0 l D cA E _ u16 r2 (.ref c2) 0 f26 (by decide)) (cwV 1 cx.2.2.2.2.2.1 g_w_begin0_59_wsX6_cut rfl rfl rfl (by decide +kernel) ⟨Nat.le_of_ble_eq_true rfl, Nat.le_of_ble_eq_true rfl⟩) f26 rfl rfl hl.1 rfl (Nat.le_of_ble_eq_true rfl) dX10_begin_38 ⟨Nat.le_of_ble_eq_true rfl, Nat.le_of_ble_eq_true rfl⟩ (fun u27 H locs hp29 hw => ?_)
  have eu27 := hp29
  have f30 : u27 r2 = some (.inr (6, [.ref c2, .int 0])) := (by rw [eu27]; exact hp_up_self _ _ _)
  refine lv_iconst (v := 1) cx.1 cx.2.1 dX10_begin_41 (by decide) ?_
  refine lv_istore (lv' := [(4, .int 1), (0, .ref h), (1, .ref bt), (2, .int 0), (3, .int sp)]) cx.1 cx.2.1 dX10_begin_42 hl (by decide) rfl (fun ls hl => ?_)
  refine lv_iconst (v := 0) cx.1 cx.2.1 dX10_begin_44 (by decide) ?_
  refine lv_istore (lv' := [(5, .int 0), (4, .int 1), (0, .ref h), (1, .ref bt), (2, .int 0), (3, .int sp)]) cx.1 cx.2.1 dX10_begin_45 hl (by decide) rfl (fun ls hl => ?_)
  refine lv_iload cx.1 cx.2.1 dX10_begin_47 (lv_at hl 1 rfl) ?_
  refine lv_if_eq (tgt := 70) cx.1 cx.2.1 dX10_begin_49 (by decide) (fun c49_31 => ?_) (fun c49_31 => ?_)
  · exact absurd c49_31 (by decide)
  refine lv_iload cx.1 cx.2.1 dX10_begin_52 (lv_at hl 0 rfl) ?_
  refine lv_iload_n cx.1 cx.2.1 dX10_begin_54 rfl (lv_at hl 4 rfl) ?_
  refine lv_icmp_gt (tgt := 70) cx.1 cx.2.1 dX10_begin_55 (by decide) (fun c55_32 => ?_) (fun c55_32 => ?_)
  · exact absurd c55_32 (by decide)
  refine lv_aload_n cx.1 cx.2.1 dX10_begin_58 rfl (lv_at hl 2 rfl) ?_
  have f33 : u27 h = some (.inr (10, [.ref k0, .ref r1, .ref r2, .ref bt, .int 0, .int sp, .int 0, .int 0, .int kd, .int wt, .long vv])) := (by rw [eu27]; exact (hp_up_ne _ _ (hp_neK f20 f26 (by decide))).trans f20)
  have f34 : u27 r1 = some (.inr (6, [.ref c1, .int 0])) := (by rw [eu27]; exact (hp_up_ne _ _ (hne)).trans f19)
  have f35 : g1 c1 = some (.inl (cA 2, 192, .inr (.inl f))) := (by rw [eg1]; exact (hp_up_ne _ _ (hp_neAO hc hh)).trans hc)
  have f36 : g3 c1 = some (.inl (cA 2, 192, .inr (.inl f))) := (by rw [eg3]; exact (hp_up_ne _ _ (hp_neAO f35 f2)).trans f35)
  have f37 : g5 c1 = some (.inl (cA 2, 192, .inr (.inl f))) := (by rw [eg5]; exact (hp_up_ne _ _ (hp_neAO f36 f4)).trans f36)
  have f38 : g7 c1 = some (.inl (cA 2, 192, .inr (.inl f))) := (by rw [eg7]; exact (hp_up_ne _ _ (hp_neAO f37 f6)).trans f37)
  have f39 : g9 c1 = some (.inl (cA 2, 192, .inr (.inl f))) := (by rw [eg9]; exact (hp_up_ne _ _ (hp_neAO f38 f8)).trans f38)
  have f40 : u16 c1 = some (.inl (cA 2, 192, .inr (.inl f))) := (by rw [eu16]; exact (hp_up_ne _ _ (hp_neAO f39 f15)).trans f39)
  have f41 : u27 c1 = some (.inl (cA 2, 192, .inr (.inl f))) := (by rw [eu27]; exact (hp_up_ne _ _ (hp_neAO f40 f26)).trans f40)
  refine hp_callVi (As := []) (rest := []) cx hw (w_findWord0 l D cA E _ u27 h k0 r1 r2 bt sp 0 kd wt vv f33 c1 f f34 f41) (cwV 0 cx.2.2.2.2.2.1 g_w_begin0_62_v_w_findWord0 rfl rfl rfl (by decide +kernel) ⟨Nat.le_of_ble_eq_true rfl, Nat.le_of_ble_eq_true rfl⟩) f33 rfl rfl hl.1 rfl (Nat.le_of_ble_eq_true rfl) dX10_begin_59 ⟨Nat.le_of_ble_eq_true rfl, Nat.le_of_ble_eq_true rfl⟩ (fun r43 u42 H locs hp44 hw => ?_)
  obtain ⟨err43, hx47, f45, f46⟩ := hp44
  subst err43
  refine lv_istore (lv' := [(4, .int 0), (5, .int 0), (0, .ref h), (1, .ref bt), (2, .int 0), (3, .int sp)]) cx.1 cx.2.1 dX10_begin_62 hl (by decide) rfl (fun ls hl => ?_)
  refine lv_iinc (v := 1) (lv' := [(5, .int 1), (4, .int 0), (0, .ref h), (1, .ref bt), (2, .int 0), (3, .int sp)]) cx.1 cx.2.1 dX10_begin_64 hl (k := 1) rfl (by decide) (by decide) rfl (fun ls hl => ?_)
  refine lv_goto (tgt := 47) cx.1 cx.2.1 dX10_begin_67 (by decide) ?_
  refine lv_iload cx.1 cx.2.1 dX10_begin_47 (lv_at hl 1 rfl) ?_
  refine lv_if_eq (tgt := 70) cx.1 cx.2.1 dX10_begin_49 (by decide) (fun c49_48 => ?_) (fun c49_48 => ?_)
  rotate_left
  · exact absurd (by decide) c49_48
  refine lv_aload_n cx.1 cx.2.1 dX10_begin_70 rfl (lv_at hl 2 rfl) ?_
  have f49 : u42 h = some (.inr (10, [.ref k0, .ref r1, .ref r2, .ref bt, .int 0, .int sp, .int 0, .int 0, .int kd, .int wt, .long vv])) := hx47 _ _ (nm_2 (hp_neOA f33 f41) (hp_neK f33 f34 (by decide))) f33
  refine hp_callVv (As := []) (rest := []) cx hw (w_advance0 l D cA E _ u42 h k0 r1 r2 bt 0 sp 0 kd wt vv f49 c1 f f45 f46) (cwV 0 cx.2.2.2.2.2.1 g_w_begin0_66_v_w_advance0 rfl rfl rfl (by decide +kernel) ⟨Nat.le_of_ble_eq_true rfl, Nat.le_of_ble_eq_true rfl⟩) f49 rfl rfl hl.1 rfl (Nat.le_of_ble_eq_true rfl) dX10_begin_71 ⟨Nat.le_of_ble_eq_true rfl, Nat.le_of_ble_eq_true rfl⟩ (fun u50 H locs hp52 hw => ?_)
  obtain ⟨hx54, f53⟩ := hp52
  have hxt : hp_extL [h, c1, r1, r2] g u50 := by
    intro b e hb hg
    have hb0 : b ≠ h := fun q => hb (by rw [q]; simp)
    have hb1 : b ≠ c1 := fun q => hb (by rw [q]; simp)
    have hb2 : b ≠ r1 := fun q => hb (by rw [q]; simp)
    have hb3 : b ≠ r2 := fun q => hb (by rw [q]; simp)
    have b_g1 : g1 b = some e := by rw [eg1]; exact (hp_up_ne _ _ (hb0)).trans hg
    have b_g3 : g3 b = some e := by rw [eg3]; exact (hp_up_ne _ _ (hb0)).trans b_g1
    have b_g5 : g5 b = some e := by rw [eg5]; exact (hp_up_ne _ _ (hb0)).trans b_g3
    have b_g7 : g7 b = some e := by rw [eg7]; exact (hp_up_ne _ _ (hb0)).trans b_g5
    have b_g9 : g9 b = some e := by rw [eg9]; exact (hp_up_ne _ _ (hb0)).trans b_g7
    have b_u16 : u16 b = some e := by rw [eu16]; exact (hp_up_ne _ _ (hb2)).trans b_g9
    have b_u27 : u27 b = some e := by rw [eu27]; exact (hp_up_ne _ _ (hb3)).trans b_u16
    have b_u42 := hx47 b e (nm_2 (hb1) (hb2)) b_u27
    have b_u50 := hx54 b e (nm_1 (hb0)) b_u42
    exact b_u50
  exact hp_vret cx hw (⟨hxt, f53⟩) dX10_begin_74
