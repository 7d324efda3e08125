def at_X4_89 : List Cond := (vx_atS RX4 89 "java/lang/IllegalArgumentException" ["java/lang/RuntimeException", "java/lang/Exception"]).filter goodWord
theorem gd_at_X4_89 : ∀ w ∈ at_X4_89, gdW w := fun w h => good_of_word (List.mem_filter.mp h).2

def at_X11_210 : List Cond := (vx_atS RX11 210 "java/lang/IllegalStateException" ["java/lang/RuntimeException", "java/lang/Exception"]).filter goodWord
theorem gd_at_X11_210 : ∀ w ∈ at_X11_210, gdW w := fun w h => good_of_word (List.mem_filter.mp h).2

def lk_x_refuse : List Cond := [Cond.fieldLink RX4 64 "WardenHouse$Reader" "faultKind" "I", Cond.fieldLink RX4 51 "WardenHouse$Reader" "faultPlace" "I", Cond.classLink RX4 85 "java/lang/IllegalArgumentException", Cond.initialized "java/lang/IllegalArgumentException"]
def v_x_refuse : List Cond := .code yX4_refuse cX4_refuse 3 none :: (lk_x_refuse ++ (wsX40 ++ (at_X4_89 ++ [])))
theorem m_x_refuse_f64 : Cond.fieldLink RX4 64 "WardenHouse$Reader" "faultKind" "I" ∈ v_x_refuse := List.mem_cons_of_mem _ (List.mem_append_left _ (List.mem_of_getElem? (i := 0) rfl))
theorem m_x_refuse_f51 : Cond.fieldLink RX4 51 "WardenHouse$Reader" "faultPlace" "I" ∈ v_x_refuse := List.mem_cons_of_mem _ (List.mem_append_left _ (List.mem_of_getElem? (i := 1) rfl))
theorem m_x_refuse_k85 : Cond.classLink RX4 85 "java/lang/IllegalArgumentException" ∈ v_x_refuse := List.mem_cons_of_mem _ (List.mem_append_left _ (List.mem_of_getElem? (i := 2) rfl))
theorem m_x_refuse_zX : Cond.initialized "java/lang/IllegalArgumentException" ∈ v_x_refuse := List.mem_cons_of_mem _ (List.mem_append_left _ (List.mem_of_getElem? (i := 3) rfl))
theorem i_x_refuse_X4 : ∀ w ∈ wsX40, w ∈ v_x_refuse := fun _ h => List.mem_cons_of_mem _ (List.mem_append_right _ (List.mem_append_left _ h))
theorem j_x_refuse_at_X4_89 : ∀ w ∈ at_X4_89, w ∈ v_x_refuse := fun _ h => List.mem_cons_of_mem _ (List.mem_append_right _ (List.mem_append_right _ (List.mem_append_left _ h)))
theorem gk_x_refuse : lk_x_refuse.all goodWord = true := by decide +kernel
theorem gd_v_x_refuse : ∀ w ∈ v_x_refuse, gdW w := fun w h => (List.mem_cons.mp h).elim (fun e => by rw [e]; exact good_of_word rfl) (fun h => (List.mem_append.mp h).elim (fun h => good_of_word (List.all_eq_true.mp gk_x_refuse w h)) (fun h => (List.mem_append.mp h).elim (gd_wsX40 w) (fun h => (List.mem_append.mp h).elim (gd_at_X4_89 w) (fun h => nomatch h))))
set_option maxHeartbeats 4000000 in
set_option maxRecDepth 100000 in
theorem x_refuse (l : Launch) (D : va_G) (cA : Nat → ClassId) (E : hp_N) (sz : Nat) (g : hp_M) (hst : l.stackTraces = false) (hth : st_thr E "java/lang/IllegalArgumentException") (sr : Nat) (hsr : ∀ A U H, E A U H → vk_R "WardenHouse$Reader" 87 "the text has a fault" sr U) (h wd pn po : Nat) (ra : Nat → Nat) (m0 m1 : Nat) (j6 j9 j10 j11 j12 : Int32) (hh : g h = some (.inr (4, [.ref wd, .ref pn, .ref po, .ref (ra 3), .ref (ra 4), .ref (ra 5), .int j6, .ref m0, .ref m1, .int j9, .int j10, .int j11, .int j12]))) (x y : Int32) : vx_Met l yX4_refuse v_x_refuse ({ frames := 6, cells := 1, slots := 6, locals := 82 }) (hp_Pc D vwCl (hp_Tl cA) E sz g [.ref h, .int x, .int y]) (hp_Qv D vwCl (hp_Tl cA) sz g (fun _ => False)) (hp_XC "java/lang/IllegalArgumentException" g sz) 1 6 (hp_A g sz) := by
  refine hp_ofWx (cc := cX4_refuse) (maxL := 3) (ret := none) (by decide) rfl (Nat.le_of_ble_eq_true rfl) ?_
  intro pp ee ss mm bb mt cd ls cx hsz hw hl hno
  have hl : lv_has ls 3 [(0, .ref h), (1, .int x), (2, .int y)] := hl
  refine lv_aload_n cx.1 cx.2.1 dX4_refuse_0 rfl (lv_at hl 0 rfl) ?_
  refine lv_iload_n cx.1 cx.2.1 dX4_refuse_1 rfl (lv_at hl 1 rfl) ?_
  refine hp_put (C := RX4) (T := TX4) (N := 13) (ci := 4) (fs' := [.ref wd, .ref pn, .ref po, .ref (ra 3), .ref (ra 4), .ref (ra 5), .int j6, .ref m0, .ref m1, .int j9, .int j10, .int x, .int j12]) cx hw i_x_refuse_X4 tyX4_ok nmX4 rfl hh 11 (by decide) m_x_refuse_f64 rfl  rfl rfl (Nat.le_of_ble_eq_true rfl) rfl dX4_refuse_2 (fun g1 H locs eg1 hw => ?_)
  have f2 : g1 h = some (.inr (4, [.ref wd, .ref pn, .ref po, .ref (ra 3), .ref (ra 4), .ref (ra 5), .int j6, .ref m0, .ref m1, .int j9, .int j10, .int x, .int j12])) := (by rw [eg1]; exact hp_up_self _ _ _)
  refine lv_aload_n cx.1 cx.2.1 dX4_refuse_5 rfl (lv_at hl 0 rfl) ?_
  refine lv_iload_n cx.1 cx.2.1 dX4_refuse_6 rfl (lv_at hl 2 rfl) ?_
  refine hp_put (C := RX4) (T := TX4) (N := 13) (ci := 4) (fs' := [.ref wd, .ref pn, .ref po, .ref (ra 3), .ref (ra 4), .ref (ra 5), .int j6, .ref m0, .ref m1, .int j9, .int j10, .int x, .int y]) cx hw i_x_refuse_X4 tyX4_ok nmX4 rfl f2 12 (by decide) m_x_refuse_f51 rfl  rfl rfl (Nat.le_of_ble_eq_true rfl) rfl dX4_refuse_7 (fun g3 H locs eg3 hw => ?_)
  have f4 : g3 h = some (.inr (4, [.ref wd, .ref pn, .ref po, .ref (ra 3), .ref (ra 4), .ref (ra 5), .int j6, .ref m0, .ref m1, .int j9, .int j10, .int x, .int y])) := (by rw [eg3]; exact hp_up_self _ _ _)
  exact hp_throwS (X := "java/lang/IllegalArgumentException") (text := "the text has a fault") (names := ["java/lang/RuntimeException", "java/lang/Exception"]) cx hw hno hst (by decide +kernel) (by decide +kernel) m_x_refuse_k85 m_x_refuse_zX hsr j_x_refuse_at_X4_89 (by decide +kernel) (by decide +kernel) hth hl.1 dX4_refuse_10 dX4_refuse_13 dX4_refuse_14 dX4_refuse_16 dX4_refuse_19 (Nat.le_of_ble_eq_true rfl) (Nat.le_of_ble_eq_true rfl) (Nat.le_of_ble_eq_true rfl) (Nat.le_of_ble_eq_true rfl) (Nat.le_of_ble_eq_true rfl) (Nat.le_of_ble_eq_true rfl)

def lk_x_need : List Cond := [Cond.fieldLink RX4 9 "WardenHouse$Reader" "words" "LWardenHouse$Words;", Cond.fieldLink RX4 92 "WardenHouse$Words" "at" "I", Cond.methodLink RX4 95 yX4_refuse, Cond.instanceMethod yX4_refuse, Cond.selects RX4 yX4_refuse yX4_refuse, Cond.initialized RX4]
def v_x_need : List Cond := .code yX4_need cX4_need 2 none :: (lk_x_need ++ (wsX40 ++ (wsX100 ++ (v_x_refuse ++ []))))
theorem m_x_need_f9 : Cond.fieldLink RX4 9 "WardenHouse$Reader" "words" "LWardenHouse$Words;" ∈ v_x_need := List.mem_cons_of_mem _ (List.mem_append_left _ (List.mem_of_getElem? (i := 0) rfl))
theorem m_x_need_f92 : Cond.fieldLink RX4 92 "WardenHouse$Words" "at" "I" ∈ v_x_need := List.mem_cons_of_mem _ (List.mem_append_left _ (List.mem_of_getElem? (i := 1) rfl))
theorem m_x_need_l95 : Cond.methodLink RX4 95 yX4_refuse ∈ v_x_need := List.mem_cons_of_mem _ (List.mem_append_left _ (List.mem_of_getElem? (i := 2) rfl))
theorem m_x_need_j95 : Cond.instanceMethod yX4_refuse ∈ v_x_need := List.mem_cons_of_mem _ (List.mem_append_left _ (List.mem_of_getElem? (i := 3) rfl))
theorem m_x_need_s95 : Cond.selects RX4 yX4_refuse yX4_refuse ∈ v_x_need := List.mem_cons_of_mem _ (List.mem_append_left _ (List.mem_of_getElem? (i := 4) rfl))
theorem m_x_need_z4 : Cond.initialized RX4 ∈ v_x_need := List.mem_cons_of_mem _ (List.mem_append_left _ (List.mem_of_getElem? (i := 5) rfl))
theorem i_x_need_X4 : ∀ w ∈ wsX40, w ∈ v_x_need := fun _ h => List.mem_cons_of_mem _ (List.mem_append_right _ (List.mem_append_left _ h))
theorem i_x_need_X10 : ∀ w ∈ wsX100, w ∈ v_x_need := fun _ h => List.mem_cons_of_mem _ (List.mem_append_right _ (List.mem_append_right _ (List.mem_append_left _ h)))
theorem j_x_need_v_x_refuse : ∀ w ∈ v_x_refuse, w ∈ v_x_need := fun _ h => List.mem_cons_of_mem _ (List.mem_append_right _ (List.mem_append_right _ (List.mem_append_right _ (List.mem_append_left _ h))))
theorem gk_x_need : lk_x_need.all goodWord = true := by decide +kernel
theorem gd_v_x_need : ∀ w ∈ v_x_need, gdW w := fun w h => (List.mem_cons.mp h).elim (fun e => by rw [e]; exact good_of_word rfl) (fun h => (List.mem_append.mp h).elim (fun h => good_of_word (List.all_eq_true.mp gk_x_need w h)) (fun h => (List.mem_append.mp h).elim (gd_wsX40 w) (fun h => (List.mem_append.mp h).elim (gd_wsX100 w) (fun h => (List.mem_append.mp h).elim (gd_v_x_refuse w) (fun h => nomatch h)))))
theorem g_x_need_95_v_x_refuse : GoodIn v_x_need (wsV RX4 95 RX4 yX4_refuse v_x_refuse) := goodIn_app (fun w h => (fun h => (List.mem_cons.mp h).elim (fun e => by rw [e]; exact ⟨m_x_need_l95, good_of_word rfl⟩) (fun h => (List.mem_cons.mp h).elim (fun e => by rw [e]; exact ⟨m_x_need_j95, good_of_word rfl⟩) (fun h => (List.mem_cons.mp h).elim (fun e => by rw [e]; exact ⟨m_x_need_s95, good_of_word rfl⟩) (fun h => (List.mem_cons.mp h).elim (fun e => by rw [e]; exact ⟨m_x_need_z4, good_of_word rfl⟩) (fun h => nomatch h))))) h) (fun w h => ⟨j_x_need_v_x_refuse w h, gd_v_x_refuse w h⟩)
set_option maxHeartbeats 4000000 in
set_option maxRecDepth 100000 in
theorem x_need (l : Launch) (D : va_G) (cA : Nat → ClassId) (E : hp_N) (sz : Nat) (g : hp_M) (hst : l.stackTraces = false) (hth : st_thr E "java/lang/IllegalArgumentException") (sr : Nat) (hsr : ∀ A U H, E A U H → vk_R "WardenHouse$Reader" 87 "the text has a fault" sr U) (h wd pn po : Nat) (ra : Nat → Nat) (m0 m1 : Nat) (j6 j9 j10 j11 j12 : Int32) (hh : g h = some (.inr (4, [.ref wd, .ref pn, .ref po, .ref (ra 3), .ref (ra 4), .ref (ra 5), .int j6, .ref m0, .ref m1, .int j9, .int j10, .int j11, .int j12]))) (k0 r1 r2 tx : Nat) (z mo pl nx kd wt : Int32) (vv : Int64) (hwd : g wd = some (.inr (10, [.ref k0, .ref r1, .ref r2, .ref tx, .int z, .int mo, .int pl, .int nx, .int kd, .int wt, .long vv]))) : vx_Met l yX4_need v_x_need ({ frames := 7, cells := 1, slots := 6, locals := 110 }) (hp_Pc D vwCl (hp_Tl cA) E sz g [.ref h, .int 0]) (hp_Qv D vwCl (hp_Tl cA) sz g (fun _ => False)) (hp_XC "java/lang/IllegalArgumentException" g sz) 1 6 (hp_A g sz) := by
  refine hp_ofWx (cc := cX4_need) (maxL := 2) (ret := none) (by decide) rfl (Nat.le_of_ble_eq_true rfl) ?_
  intro pp ee ss mm bb mt cd ls cx hsz hw hl hno
  have hl : lv_has ls 2 [(0, .ref h), (1, .int 0)] := hl
  refine lv_iload_n cx.1 cx.2.1 dX4_need_0 rfl (lv_at hl 1 rfl) ?_
  refine lv_if_ne (tgt := 16) cx.1 cx.2.1 dX4_need_1 (by decide) (fun c1_1 => ?_) (fun c1_1 => ?_)
  · exact absurd c1_1 (by decide)
  refine lv_aload_n cx.1 cx.2.1 dX4_need_4 rfl (lv_at hl 0 rfl) ?_
  refine lv_iconst (v := 1) cx.1 cx.2.1 dX4_need_5 (by decide) ?_
  refine lv_aload_n cx.1 cx.2.1 dX4_need_6 rfl (lv_at hl 0 rfl) ?_
  refine hp_get (C := RX4) (T := TX4) (N := 13) (ci := 4) cx hw i_x_need_X4 rfl hh 0 (by decide) m_x_need_f9 (v := .ref wd) rfl dX4_need_7 ?_
  refine hp_get (C := RX10) (T := TX10) (N := 11) (ci := 10) cx hw i_x_need_X10 rfl hwd 9 (by decide) m_x_need_f92 (v := .int wt) rfl dX4_need_10 ?_
  exact hp_callXv (As := [.int 1, .int wt]) (rest := []) cx hw hno (x_refuse l D cA E _ g hst hth sr hsr h wd pn po ra m0 m1 j6 j9 j10 j11 j12 hh 1 wt) (cwV 2 cx.2.2.2.2.2.1 g_x_need_95_v_x_refuse rfl rfl rfl (by decide +kernel) ⟨Nat.le_of_ble_eq_true rfl, Nat.le_of_ble_eq_true rfl⟩) hh rfl rfl hl.1 rfl (Nat.le_of_ble_eq_true rfl) dX4_need_13 ⟨Nat.le_of_ble_eq_true rfl, Nat.le_of_ble_eq_true rfl⟩ (Nat.le_of_ble_eq_true rfl) (Nat.le_of_ble_eq_true rfl)

def lk_x_hasModule : List Cond := [Cond.fieldLink RX4 9 "WardenHouse$Reader" "words" "LWardenHouse$Words;", Cond.fieldLink RX4 67 "WardenHouse$Words" "kind" "I", Cond.fieldLink RX4 15 "WardenHouse$Reader" "plan" "LWardenHouse$Plan;", Cond.fieldLink RX4 79 "WardenHouse$Plan" "moduleCount" "I", Cond.methodLink RX4 82 yX4_need, Cond.instanceMethod yX4_need, Cond.selects RX4 yX4_need yX4_need, Cond.initialized RX4]
def v_x_hasModule : List Cond := .code yX4_hasModule cX4_hasModule 2 (some .boolean) :: (lk_x_hasModule ++ (wsX40 ++ (wsX100 ++ (wsX20 ++ (v_x_need ++ [])))))
theorem m_x_hasModule_f9 : Cond.fieldLink RX4 9 "WardenHouse$Reader" "words" "LWardenHouse$Words;" ∈ v_x_hasModule := List.mem_cons_of_mem _ (List.mem_append_left _ (List.mem_of_getElem? (i := 0) rfl))
theorem m_x_hasModule_f67 : Cond.fieldLink RX4 67 "WardenHouse$Words" "kind" "I" ∈ v_x_hasModule := List.mem_cons_of_mem _ (List.mem_append_left _ (List.mem_of_getElem? (i := 1) rfl))
theorem m_x_hasModule_f15 : Cond.fieldLink RX4 15 "WardenHouse$Reader" "plan" "LWardenHouse$Plan;" ∈ v_x_hasModule := List.mem_cons_of_mem _ (List.mem_append_left _ (List.mem_of_getElem? (i := 2) rfl))
theorem m_x_hasModule_f79 : Cond.fieldLink RX4 79 "WardenHouse$Plan" "moduleCount" "I" ∈ v_x_hasModule := List.mem_cons_of_mem _ (List.mem_append_left _ (List.mem_of_getElem? (i := 3) rfl))
theorem m_x_hasModule_l82 : Cond.methodLink RX4 82 yX4_need ∈ v_x_hasModule := List.mem_cons_of_mem _ (List.mem_append_left _ (List.mem_of_getElem? (i := 4) rfl))
theorem m_x_hasModule_j82 : Cond.instanceMethod yX4_need ∈ v_x_hasModule := List.mem_cons_of_mem _ (List.mem_append_left _ (List.mem_of_getElem? (i := 5) rfl))
theorem m_x_hasModule_s82 : Cond.selects RX4 yX4_need yX4_need ∈ v_x_hasModule := List.mem_cons_of_mem _ (List.mem_append_left _ (List.mem_of_getElem? (i := 6) rfl))
theorem m_x_hasModule_z4 : Cond.initialized RX4 ∈ v_x_hasModule := List.mem_cons_of_mem _ (List.mem_append_left _ (List.mem_of_getElem? (i := 7) rfl))
theorem i_x_hasModule_X4 : ∀ w ∈ wsX40, w ∈ v_x_hasModule := fun _ h => List.mem_cons_of_mem _ (List.mem_append_right _ (List.mem_append_left _ h))
theorem i_x_hasModule_X10 : ∀ w ∈ wsX100, w ∈ v_x_hasModule := fun _ h => List.mem_cons_of_mem _ (List.mem_append_right _ (List.mem_append_right _ (List.mem_append_left _ h)))
theorem i_x_hasModule_X2 : ∀ w ∈ wsX20, w ∈ v_x_hasModule := fun _ h => List.mem_cons_of_mem _ (List.mem_append_right _ (List.mem_append_right _ (List.mem_append_right _ (List.mem_append_left _ h))))
theorem j_x_hasModule_v_x_need : ∀ w ∈ v_x_need, w ∈ v_x_hasModule := fun _ h => List.mem_cons_of_mem _ (List.mem_append_right _ (List.mem_append_right _ (List.mem_append_right _ (List.mem_append_right _ (List.mem_append_left _ h)))))
theorem gk_x_hasModule : lk_x_hasModule.all goodWord = true := by decide +kernel
theorem gd_v_x_hasModule : ∀ w ∈ v_x_hasModule, gdW w := fun w h => (List.mem_cons.mp h).elim (fun e => by rw [e]; exact good_of_word rfl) (fun h => (List.mem_append.mp h).elim (fun h => good_of_word (List.all_eq_true.mp gk_x_hasModule w h)) (fun h => (List.mem_append.mp h).elim (gd_wsX40 w) (fun h => (List.mem_append.mp h).elim (gd_wsX100 w) (fun h => (List.mem_append.mp h).elim (gd_wsX20 w) (fun h => (List.mem_append.mp h).elim (gd_v_x_need w) (fun h => nomatch h))))))
theorem g_x_hasModule_82_v_x_need : GoodIn v_x_hasModule (wsV RX4 82 RX4 yX4_need v_x_need) := goodIn_app (fun w h => (fun h => (List.mem_cons.mp h).elim (fun e => by rw [e]; exact ⟨m_x_hasModule_l82, good_of_word rfl⟩) (fun h => (List.mem_cons.mp h).elim (fun e => by rw [e]; exact ⟨m_x_hasModule_j82, good_of_word rfl⟩) (fun h => (List.mem_cons.mp h).elim (fun e => by rw [e]; exact ⟨m_x_hasModule_s82, good_of_word rfl⟩) (fun h => (List.mem_cons.mp h).elim (fun e => by rw [e]; exact ⟨m_x_hasModule_z4, good_of_word rfl⟩) (fun h => nomatch h))))) h) (fun w h => ⟨j_x_hasModule_v_x_need w h, gd_v_x_need w h⟩)
set_option maxHeartbeats 4000000 in
set_option maxRecDepth 100000 in
theorem x_hasModule (l : Launch) (D : va_G) (cA : Nat → ClassId) (E : hp_N) (sz : Nat) (g : hp_M) (hst : l.stackTraces = false) (hth : st_thr E "java/lang/IllegalArgumentException") (sr : Nat) (hsr : ∀ A U H, E A U H → vk_R "WardenHouse$Reader" 87 "the text has a fault" sr U) (h wd pn po : Nat) (ra : Nat → Nat) (m0 m1 : Nat) (j6 j9 j10 j11 j12 : Int32) (hh : g h = some (.inr (4, [.ref wd, .ref pn, .ref po, .ref (ra 3), .ref (ra 4), .ref (ra 5), .int j6, .ref m0, .ref m1, .int j9, .int j10, .int j11, .int j12]))) (a : Nat → Nat) (i2 i12 i14 : Int32) (hpn : g pn = some (.inr (2, [.ref po, .ref (a 1), .int i2, .ref (a 3), .ref (a 4), .ref (a 5), .ref (a 6), .ref (a 7), .ref (a 8), .ref (a 9), .int 0, .ref (a 11), .int i12, .ref (a 13), .int i14, .ref (a 15)]))) (k0 r1 r2 tx : Nat) (z mo pl nx wt : Int32) (vv : Int64) (hwd : g wd = some (.inr (10, [.ref k0, .ref r1, .ref r2, .ref tx, .int z, .int mo, .int pl, .int nx, .int 0, .int wt, .long vv]))) : vx_Met l yX4_hasModule v_x_hasModule ({ frames := 8, cells := 1, slots := 6, locals := 140 }) (hp_Pc D vwCl (hp_Tl cA) E sz g [.ref h]) (hp_Qi D vwCl (hp_Tl cA) sz g (fun _ _ => False)) (hp_XC "java/lang/IllegalArgumentException" g sz) 1 6 (hp_A g sz) := by
  refine hp_ofWx (cc := cX4_hasModule) (maxL := 2) (ret := (some .boolean)) (by decide) rfl (Nat.le_of_ble_eq_true rfl) ?_
  intro pp ee ss mm bb mt cd ls cx hsz hw hl hno
  have hl : lv_has ls 2 [(0, .ref h)] := hl
  refine lv_aload_n cx.1 cx.2.1 dX4_hasModule_0 rfl (lv_at hl 0 rfl) ?_
  refine hp_get (C := RX4) (T := TX4) (N := 13) (ci := 4) cx hw i_x_hasModule_X4 rfl hh 0 (by decide) m_x_hasModule_f9 (v := .ref wd) rfl dX4_hasModule_1 ?_
  refine hp_get (C := RX10) (T := TX10) (N := 11) (ci := 10) cx hw i_x_hasModule_X10 rfl hwd 8 (by decide) m_x_hasModule_f67 (v := .int 0) rfl dX4_hasModule_4 ?_
  refine lv_sipush (v := 211) cx.1 cx.2.1 dX4_hasModule_7 (by decide) ?_
  refine lv_icmp_ne (tgt := 17) cx.1 cx.2.1 dX4_hasModule_10 (by decide) (fun c10_1 => ?_) (fun c10_1 => ?_)
  rotate_left
  · exact absurd c10_1 (by decide)
  refine lv_iconst (v := 0) cx.1 cx.2.1 dX4_hasModule_17 (by decide) ?_
  refine lv_istore_n (lv' := [(1, .int 0), (0, .ref h)]) cx.1 cx.2.1 dX4_hasModule_18 rfl hl (by decide) rfl (fun ls hl => ?_)
  refine lv_aload_n cx.1 cx.2.1 dX4_hasModule_19 rfl (lv_at hl 1 rfl) ?_
  refine lv_iload_n cx.1 cx.2.1 dX4_hasModule_20 rfl (lv_at hl 0 rfl) ?_
  refine lv_if_ne (tgt := 44) cx.1 cx.2.1 dX4_hasModule_21 (by decide) (fun c21_2 => ?_) (fun c21_2 => ?_)
  · exact absurd c21_2 (by decide)
  refine lv_aload_n cx.1 cx.2.1 dX4_hasModule_24 rfl (lv_at hl 1 rfl) ?_
  refine hp_get (C := RX4) (T := TX4) (N := 13) (ci := 4) cx hw i_x_hasModule_X4 rfl hh 0 (by decide) m_x_hasModule_f9 (v := .ref wd) rfl dX4_hasModule_25 ?_
  refine hp_get (C := RX10) (T := TX10) (N := 11) (ci := 10) cx hw i_x_hasModule_X10 rfl hwd 8 (by decide) m_x_hasModule_f67 (v := .int 0) rfl dX4_hasModule_28 ?_
  refine lv_if_ne (tgt := 48) cx.1 cx.2.1 dX4_hasModule_31 (by decide) (fun c31_3 => ?_) (fun c31_3 => ?_)
  · exact absurd c31_3 (by decide)
  refine lv_aload_n cx.1 cx.2.1 dX4_hasModule_34 rfl (lv_at hl 1 rfl) ?_
  refine hp_get (C := RX4) (T := TX4) (N := 13) (ci := 4) cx hw i_x_hasModule_X4 rfl hh 1 (by decide) m_x_hasModule_f15 (v := .ref pn) rfl dX4_hasModule_35 ?_
  refine hp_get (C := RX2) (T := TX2) (N := 16) (ci := 2) cx hw i_x_hasModule_X2 rfl hpn 10 (by decide) m_x_hasModule_f79 (v := .int 0) rfl dX4_hasModule_38 ?_
  refine lv_if_le (tgt := 48) cx.1 cx.2.1 dX4_hasModule_41 (by decide) (fun c41_4 => ?_) (fun c41_4 => ?_)
  rotate_left
  · exact absurd (by decide) c41_4
  refine lv_iconst (v := 0) cx.1 cx.2.1 dX4_hasModule_48 (by decide) ?_
  exact hp_callXv (As := [.int 0]) (rest := []) cx hw hno (x_need l D cA E _ g hst hth sr hsr h wd pn po ra m0 m1 j6 j9 j10 j11 j12 hh k0 r1 r2 tx z mo pl nx 0 wt vv hwd) (cwV 1 cx.2.2.2.2.2.1 g_x_hasModule_82_v_x_need rfl rfl rfl (by decide +kernel) ⟨Nat.le_of_ble_eq_true rfl, Nat.le_of_ble_eq_true rfl⟩) hh rfl rfl hl.1 rfl (Nat.le_of_ble_eq_true rfl) dX4_hasModule_49 ⟨Nat.le_of_ble_eq_true rfl, Nat.le_of_ble_eq_true rfl⟩ (Nat.le_of_ble_eq_true rfl) (Nat.le_of_ble_eq_true rfl)

def lk_x_program : List Cond := [Cond.fieldLink RX11 73 "WardenHouse" "fed" "I", Cond.fieldLink RX11 81 "WardenHouse" "planned" "Z", Cond.fieldLink RX11 59 "WardenHouse" "machine" "LWardenHouse$Machine;", Cond.methodLink RX11 85 yX1_forget, Cond.instanceMethod yX1_forget, Cond.selects RX1 yX1_forget yX1_forget, Cond.initialized RX1, Cond.fieldLink RX11 50 "WardenHouse" "survey" "LWardenHouse$Survey;", Cond.methodLink RX11 88 yX8_forget, Cond.instanceMethod yX8_forget, Cond.selects RX8 yX8_forget yX8_forget, Cond.initialized RX8, Cond.fieldLink RX11 16 "WardenHouse" "words" "LWardenHouse$Words;", Cond.fieldLink RX11 9 "WardenHouse" "tape" "[B", Cond.methodLink RX11 89 yX10_begin, Cond.instanceMethod yX10_begin, Cond.selects RX10 yX10_begin yX10_begin, Cond.initialized RX10, Cond.fieldLink RX11 41 "WardenHouse" "reader" "LWardenHouse$Reader;", Cond.methodLink RX11 93 yX4_readGrants, Cond.instanceMethod yX4_readGrants, Cond.selects RX4 yX4_readGrants yX4_readGrants, Cond.initialized RX4, Cond.methodLink RX11 96 yX4_hasModule, Cond.instanceMethod yX4_hasModule, Cond.selects RX4 yX4_hasModule yX4_hasModule]
def v_x_program : List Cond := .code yX11_program cX11_program 3 (some .int) :: (lk_x_program ++ (wsX110 ++ (v_k_Machine_forget ++ (v_k_Survey_forget ++ (v_w_begin0 ++ (v_k_readGrants0 ++ (v_x_hasModule ++ [])))))))
theorem m_x_program_f73 : Cond.fieldLink RX11 73 "WardenHouse" "fed" "I" ∈ v_x_program := List.mem_cons_of_mem _ (List.mem_append_left _ (List.mem_of_getElem? (i := 0) rfl))
theorem m_x_program_f81 : Cond.fieldLink RX11 81 "WardenHouse" "planned" "Z" ∈ v_x_program := List.mem_cons_of_mem _ (List.mem_append_left _ (List.mem_of_getElem? (i := 1) rfl))
theorem m_x_program_f59 : Cond.fieldLink RX11 59 "WardenHouse" "machine" "LWardenHouse$Machine;" ∈ v_x_program := List.mem_cons_of_mem _ (List.mem_append_left _ (List.mem_of_getElem? (i := 2) rfl))
theorem m_x_program_l85 : Cond.methodLink RX11 85 yX1_forget ∈ v_x_program := List.mem_cons_of_mem _ (List.mem_append_left _ (List.mem_of_getElem? (i := 3) rfl))
theorem m_x_program_j85 : Cond.instanceMethod yX1_forget ∈ v_x_program := List.mem_cons_of_mem _ (List.mem_append_left _ (List.mem_of_getElem? (i := 4) rfl))
theorem m_x_program_s85 : Cond.selects RX1 yX1_forget yX1_forget ∈ v_x_program := List.mem_cons_of_mem _ (List.mem_append_left _ (List.mem_of_getElem? (i := 5) rfl))
theorem m_x_program_z1 : Cond.initialized RX1 ∈ v_x_program := List.mem_cons_of_mem _ (List.mem_append_left _ (List.mem_of_getElem? (i := 6) rfl))
theorem m_x_program_f50 : Cond.fieldLink RX11 50 "WardenHouse" "survey" "LWardenHouse$Survey;" ∈ v_x_program := List.mem_cons_of_mem _ (List.mem_append_left _ (List.mem_of_getElem? (i := 7) rfl))
theorem m_x_program_l88 : Cond.methodLink RX11 88 yX8_forget ∈ v_x_program := List.mem_cons_of_mem _ (List.mem_append_left _ (List.mem_of_getElem? (i := 8) rfl))
theorem m_x_program_j88 : Cond.instanceMethod yX8_forget ∈ v_x_program := List.mem_cons_of_mem _ (List.mem_append_left _ (List.mem_of_getElem? (i := 9) rfl))
theorem m_x_program_s88 : Cond.selects RX8 yX8_forget yX8_forget ∈ v_x_program := List.mem_cons_of_mem _ (List.mem_append_left _ (List.mem_of_getElem? (i := 10) rfl))
theorem m_x_program_z8 : Cond.initialized RX8 ∈ v_x_program := List.mem_cons_of_mem _ (List.mem_append_left _ (List.mem_of_getElem? (i := 11) rfl))
theorem m_x_program_f16 : Cond.fieldLink RX11 16 "WardenHouse" "words" "LWardenHouse$Words;" ∈ v_x_program := List.mem_cons_of_mem _ (List.mem_append_left _ (List.mem_of_getElem? (i := 12) rfl))
theorem m_x_program_f9 : Cond.fieldLink RX11 9 "WardenHouse" "tape" "[B" ∈ v_x_program := List.mem_cons_of_mem _ (List.mem_append_left _ (List.mem_of_getElem? (i := 13) rfl))
theorem m_x_program_l89 : Cond.methodLink RX11 89 yX10_begin ∈ v_x_program := List.mem_cons_of_mem _ (List.mem_append_left _ (List.mem_of_getElem? (i := 14) rfl))
theorem m_x_program_j89 : Cond.instanceMethod yX10_begin ∈ v_x_program := List.mem_cons_of_mem _ (List.mem_append_left _ (List.mem_of_getElem? (i := 15) rfl))
theorem m_x_program_s89 : Cond.selects RX10 yX10_begin yX10_begin ∈ v_x_program := List.mem_cons_of_mem _ (List.mem_append_left _ (List.mem_of_getElem? (i := 16) rfl))
theorem m_x_program_z10 : Cond.initialized RX10 ∈ v_x_program := List.mem_cons_of_mem _ (List.mem_append_left _ (List.mem_of_getElem? (i := 17) rfl))
theorem m_x_program_f41 : Cond.fieldLink RX11 41 "WardenHouse" "reader" "LWardenHouse$Reader;" ∈ v_x_program := List.mem_cons_of_mem _ (List.mem_append_left _ (List.mem_of_getElem? (i := 18) rfl))
theorem m_x_program_l93 : Cond.methodLink RX11 93 yX4_readGrants ∈ v_x_program := List.mem_cons_of_mem _ (List.mem_append_left _ (List.mem_of_getElem? (i := 19) rfl))
theorem m_x_program_j93 : Cond.instanceMethod yX4_readGrants ∈ v_x_program := List.mem_cons_of_mem _ (List.mem_append_left _ (List.mem_of_getElem? (i := 20) rfl))
theorem m_x_program_s93 : Cond.selects RX4 yX4_readGrants yX4_readGrants ∈ v_x_program := List.mem_cons_of_mem _ (List.mem_append_left _ (List.mem_of_getElem? (i := 21) rfl))
theorem m_x_program_z4 : Cond.initialized RX4 ∈ v_x_program := List.mem_cons_of_mem _ (List.mem_append_left _ (List.mem_of_getElem? (i := 22) rfl))
theorem m_x_program_l96 : Cond.methodLink RX11 96 yX4_hasModule ∈ v_x_program := List.mem_cons_of_mem _ (List.mem_append_left _ (List.mem_of_getElem? (i := 23) rfl))
theorem m_x_program_j96 : Cond.instanceMethod yX4_hasModule ∈ v_x_program := List.mem_cons_of_mem _ (List.mem_append_left _ (List.mem_of_getElem? (i := 24) rfl))
theorem m_x_program_s96 : Cond.selects RX4 yX4_hasModule yX4_hasModule ∈ v_x_program := List.mem_cons_of_mem _ (List.mem_append_left _ (List.mem_of_getElem? (i := 25) rfl))
theorem i_x_program_X11 : ∀ w ∈ wsX110, w ∈ v_x_program := fun _ h => List.mem_cons_of_mem _ (List.mem_append_right _ (List.mem_append_left _ h))
theorem j_x_program_v_k_Machine_forget : ∀ w ∈ v_k_Machine_forget, w ∈ v_x_program := fun _ h => List.mem_cons_of_mem _ (List.mem_append_right _ (List.mem_append_right _ (List.mem_append_left _ h)))
theorem j_x_program_v_k_Survey_forget : ∀ w ∈ v_k_Survey_forget, w ∈ v_x_program := fun _ h => List.mem_cons_of_mem _ (List.mem_append_right _ (List.mem_append_right _ (List.mem_append_right _ (List.mem_append_left _ h))))
theorem j_x_program_v_w_begin0 : ∀ w ∈ v_w_begin0, w ∈ v_x_program := fun _ h => List.mem_cons_of_mem _ (List.mem_append_right _ (List.mem_append_right _ (List.mem_append_right _ (List.mem_append_right _ (List.mem_append_left _ h)))))
theorem j_x_program_v_k_readGrants0 : ∀ w ∈ v_k_readGrants0, w ∈ v_x_program := fun _ h => List.mem_cons_of_mem _ (List.mem_append_right _ (List.mem_append_right _ (List.mem_append_right _ (List.mem_append_right _ (List.mem_append_right _ (List.mem_append_left _ h))))))
theorem j_x_program_v_x_hasModule : ∀ w ∈ v_x_hasModule, w ∈ v_x_program := fun _ h => List.mem_cons_of_mem _ (List.mem_append_right _ (List.mem_append_right _ (List.mem_append_right _ (List.mem_append_right _ (List.mem_append_right _ (List.mem_append_right _ (List.mem_append_left _ h)))))))
theorem gk_x_program : lk_x_program.all goodWord = true := by decide +kernel
theorem gd_v_x_program : ∀ w ∈ v_x_program, gdW w := fun w h => (List.mem_cons.mp h).elim (fun e => by rw [e]; exact good_of_word rfl) (fun h => (List.mem_append.mp h).elim (fun h => good_of_word (List.all_eq_true.mp gk_x_program w h)) (fun h => (List.mem_append.mp h).elim (gd_wsX110 w) (fun h => (List.mem_append.mp h).elim (gd_v_k_Machine_forget w) (fun h => (List.mem_append.mp h).elim (gd_v_k_Survey_forget w) (fun h => (List.mem_append.mp h).elim (gd_v_w_begin0 w) (fun h => (List.mem_append.mp h).elim (gd_v_k_readGrants0 w) (fun h => (List.mem_append.mp h).elim (gd_v_x_hasModule w) (fun h => nomatch h))))))))
theorem g_x_program_85_v_k_Machine_forget : GoodIn v_x_program (wsV RX11 85 RX1 yX1_forget v_k_Machine_forget) := goodIn_app (fun w h => (fun h => (List.mem_cons.mp h).elim (fun e => by rw [e]; exact ⟨m_x_program_l85, good_of_word rfl⟩) (fun h => (List.mem_cons.mp h).elim (fun e => by rw [e]; exact ⟨m_x_program_j85, good_of_word rfl⟩) (fun h => (List.mem_cons.mp h).elim (fun e => by rw [e]; exact ⟨m_x_program_s85, good_of_word rfl⟩) (fun h => (List.mem_cons.mp h).elim (fun e => by rw [e]; exact ⟨m_x_program_z1, good_of_word rfl⟩) (fun h => nomatch h))))) h) (fun w h => ⟨j_x_program_v_k_Machine_forget w h, gd_v_k_Machine_forget w h⟩)
theorem g_x_program_88_v_k_Survey_forget : GoodIn v_x_program (wsV RX11 88 RX8 yX8_forget v_k_Survey_forget) := goodIn_app (fun w h => (fun h => (List.mem_cons.mp h).elim (fun e => by rw [e]; exact ⟨m_x_program_l88, good_of_word rfl⟩) (fun h => (List.mem_cons.mp h).elim (fun e => by rw [e]; exact ⟨m_x_program_j88, good_of_word rfl⟩) (fun h => (List.mem_cons.mp h).elim (fun e => by rw [e]; exact ⟨m_x_program_s88, good_of_word rfl⟩) (fun h => (List.mem_cons.mp h).elim (fun e => by rw [e]; exact ⟨m_x_program_z8, good_of_word rfl⟩) (fun h => nomatch h))))) h) (fun w h => ⟨j_x_program_v_k_Survey_forget w h, gd_v_k_Survey_forget w h⟩)
theorem g_x_program_89_v_w_begin0 : GoodIn v_x_program (wsV RX11 89 RX10 yX10_begin v_w_begin0) := goodIn_app (fun w h => (fun h => (List.mem_cons.mp h).elim (fun e => by rw [e]; exact ⟨m_x_program_l89, good_of_word rfl⟩) (fun h => (List.mem_cons.mp h).elim (fun e => by rw [e]; exact ⟨m_x_program_j89, good_of_word rfl⟩) (fun h => (List.mem_cons.mp h).elim (fun e => by rw [e]; exact ⟨m_x_program_s89, good_of_word rfl⟩) (fun h => (List.mem_cons.mp h).elim (fun e => by rw [e]; exact ⟨m_x_program_z10, good_of_word rfl⟩) (fun h => nomatch h))))) h) (fun w h => ⟨j_x_program_v_w_begin0 w h, gd_v_w_begin0 w h⟩)
theorem g_x_program_93_v_k_readGrants0 : GoodIn v_x_program (wsV RX11 93 RX4 yX4_readGrants v_k_readGrants0) := goodIn_app (fun w h => (fun h => (List.mem_cons.mp h).elim (fun e => by rw [e]; exact ⟨m_x_program_l93, good_of_word rfl⟩) (fun h => (List.mem_cons.mp h).elim (fun e => by rw [e]; exact ⟨m_x_program_j93, good_of_word rfl⟩) (fun h => (List.mem_cons.mp h).elim (fun e => by rw [e]; exact ⟨m_x_program_s93, good_of_word rfl⟩) (fun h => (List.mem_cons.mp h).elim (fun e => by rw [e]; exact ⟨m_x_program_z4, good_of_word rfl⟩) (fun h => nomatch h))))) h) (fun w h => ⟨j_x_program_v_k_readGrants0 w h, gd_v_k_readGrants0 w h⟩)
theorem g_x_program_96_v_x_hasModule : GoodIn v_x_program (wsV RX11 96 RX4 yX4_hasModule v_x_hasModule) := goodIn_app (fun w h => (fun h => (List.mem_cons.mp h).elim (fun e => by rw [e]; exact ⟨m_x_program_l96, good_of_word rfl⟩) (fun h => (List.mem_cons.mp h).elim (fun e => by rw [e]; exact ⟨m_x_program_j96, good_of_word rfl⟩) (fun h => (List.mem_cons.mp h).elim (fun e => by rw [e]; exact ⟨m_x_program_s96, good_of_word rfl⟩) (fun h => (List.mem_cons.mp h).elim (fun e => by rw [e]; exact ⟨m_x_program_z4, good_of_word rfl⟩) (fun h => nomatch h))))) h) (fun w h => ⟨j_x_program_v_x_hasModule w h, gd_v_x_hasModule w h⟩)
set_option maxHeartbeats 4000000 in
set_option maxRecDepth 100000 in
theorem x_program (l : Launch) (D : va_G) (cA : Nat → ClassId) (E : hp_N) (sz : Nat) (g : hp_M) (hst : l.stackTraces = false) (hth : st_thr E "java/lang/IllegalArgumentException") (sr : Nat) (hsr : ∀ A U H, E A U H → vk_R "WardenHouse$Reader" 87 "the text has a fault" sr U) (h : Nat) (hf : fr_House cA g h) : vx_Met l yX11_program v_x_program ({ frames := 9, cells := 1, slots := 6, locals := 170 }) (hp_Pc D vwCl (hp_Tl cA) E sz g [.ref h]) (hp_Qi D vwCl (hp_Tl cA) sz g (fun _ _ => False)) (hp_XC "java/lang/IllegalArgumentException" g sz) 1 6 (hp_A g sz) := by
  refine hp_ofWx (cc := cX11_program) (maxL := 3) (ret := (some .int)) (by decide) rfl (Nat.le_of_ble_eq_true rfl) ?_
  intro pp ee ss mm bb mt cd ls cx hsz hw hl hno
  have hl : lv_has ls 3 [(0, .ref h)] := hl
  obtain ⟨a, hh, ht, wa, pa, pl, ra, sa, ma, m0, hwd, hf1, hf11, hf2, hne, hpo, hpl, hre, hsu, hma⟩ := hf
  refine lv_aload_n cx.1 cx.2.1 dX11_program_0 rfl (lv_at hl 0 rfl) ?_
  refine hp_get (C := RX11) (T := TX11) (N := 12) (ci := 11) cx hw i_x_program_X11 rfl hh 1 (by decide) m_x_program_f73 (v := .int 0) rfl dX11_program_1 ?_
  refine lv_istore_n (lv' := [(1, .int 0), (0, .ref h)]) cx.1 cx.2.1 dX11_program_4 rfl hl (by decide) rfl (fun ls hl => ?_)
  refine lv_aload_n cx.1 cx.2.1 dX11_program_5 rfl (lv_at hl 1 rfl) ?_
  refine lv_iconst (v := 0) cx.1 cx.2.1 dX11_program_6 (by decide) ?_
  refine hp_put (C := RX11) (T := TX11) (N := 12) (ci := 11) (fs' := [.ref (a 0), .int 0, .ref (a 2), .ref (a 3), .ref (a 4), .ref (a 5), .ref (a 6), .ref (a 7), .ref (a 8), .ref (a 9), .int 0, .int 0]) cx hw i_x_program_X11 tyX11_ok nmX11 rfl hh 1 (by decide) m_x_program_f73 rfl  rfl rfl (Nat.le_of_ble_eq_true rfl) rfl dX11_program_7 (fun g1 H locs eg1 hw => ?_)
  have f2 : g1 h = some (.inr (11, [.ref (a 0), .int 0, .ref (a 2), .ref (a 3), .ref (a 4), .ref (a 5), .ref (a 6), .ref (a 7), .ref (a 8), .ref (a 9), .int 0, .int 0])) := (by rw [eg1]; exact hp_up_self _ _ _)
  refine lv_aload_n cx.1 cx.2.1 dX11_program_10 rfl (lv_at hl 1 rfl) ?_
  refine lv_iconst (v := 0) cx.1 cx.2.1 dX11_program_11 (by decide) ?_
  refine hp_put (C := RX11) (T := TX11) (N := 12) (ci := 11) (fs' := [.ref (a 0), .int 0, .ref (a 2), .ref (a 3), .ref (a 4), .ref (a 5), .ref (a 6), .ref (a 7), .ref (a 8), .ref (a 9), .int 0, .int 0]) cx hw i_x_program_X11 tyX11_ok nmX11 rfl f2 10 (by decide) m_x_program_f81 rfl  (by decide) (by decide) (Nat.le_of_ble_eq_true rfl) rfl dX11_program_12 (fun g3 H locs eg3 hw => ?_)
  have f4 : g3 h = some (.inr (11, [.ref (a 0), .int 0, .ref (a 2), .ref (a 3), .ref (a 4), .ref (a 5), .ref (a 6), .ref (a 7), .ref (a 8), .ref (a 9), .int 0, .int 0])) := (by rw [eg3]; exact hp_up_self _ _ _)
  refine lv_aload_n cx.1 cx.2.1 dX11_program_15 rfl (lv_at hl 1 rfl) ?_
  refine hp_get (C := RX11) (T := TX11) (N := 12) (ci := 11) cx hw i_x_program_X11 rfl f4 7 (by decide) m_x_program_f59 (v := .ref (a 7)) rfl dX11_program_16 ?_
  have f5 : g1 (a 7) = some (.inr (1, [.ref (a 4), .ref (a 3), .ref (ma 2), .ref (ma 3), .ref (ma 4), .ref (ma 5), .ref (ma 6), .ref (ma 7), .int 0, .int 0, .int 0, .int 0, .int 0, .int 0, .int 0, .int 0, .int 0, .int 0, .ref (ma 18), .int 0])) := (by rw [eg1]; exact (hp_up_ne _ _ (hp_neK hma hh (by decide))).trans hma)
  have f6 : g3 (a 7) = some (.inr (1, [.ref (a 4), .ref (a 3), .ref (ma 2), .ref (ma 3), .ref (ma 4), .ref (ma 5), .ref (ma 6), .ref (ma 7), .int 0, .int 0, .int 0, .int 0, .int 0, .int 0, .int 0, .int 0, .int 0, .int 0, .ref (ma 18), .int 0])) := (by rw [eg3]; exact (hp_up_ne _ _ (hp_neK f5 f2 (by decide))).trans f5)
  refine hp_callVv (As := []) (rest := []) cx hw (k_Machine_forget l D cA E _ g3 (a 7) [.ref (a 4), .ref (a 3), .ref (ma 2), .ref (ma 3), .ref (ma 4), .ref (ma 5), .ref (ma 6), .ref (ma 7), .int 0, .int 0, .int 0, .int 0, .int 0, .int 0, .int 0, .int 0, .int 0, .int 0, .ref (ma 18), .int 0] rfl f6) (cwV 0 cx.2.2.2.2.2.1 g_x_program_85_v_k_Machine_forget rfl rfl rfl (by decide +kernel) ⟨Nat.le_of_ble_eq_true rfl, Nat.le_of_ble_eq_true rfl⟩) f6 rfl rfl hl.1 rfl (Nat.le_of_ble_eq_true rfl) dX11_program_19 ⟨Nat.le_of_ble_eq_true rfl, Nat.le_of_ble_eq_true rfl⟩ (fun u7 H locs hp9 hw => ?_)
  have eu7 : u7 = hp_up g3 (a 7) (.inr (1, [.ref (a 4), .ref (a 3), .ref (ma 2), .ref (ma 3), .ref (ma 4), .ref (ma 5), .ref (ma 6), .ref (ma 7), .int 0, .int 0, .int 0, .int 0, .int 0, .int 0, .int 0, .int 0, .int 0, .int 0, .ref (ma 18), .int 0])) := hp9
  have f10 : u7 (a 7) = some (.inr (1, [.ref (a 4), .ref (a 3), .ref (ma 2), .ref (ma 3), .ref (ma 4), .ref (ma 5), .ref (ma 6), .ref (ma 7), .int 0, .int 0, .int 0, .int 0, .int 0, .int 0, .int 0, .int 0, .int 0, .int 0, .ref (ma 18), .int 0])) := (by rw [eu7]; exact hp_up_self _ _ _)
  refine lv_aload_n cx.1 cx.2.1 dX11_program_22 rfl (lv_at hl 1 rfl) ?_
  have f11 : u7 h = some (.inr (11, [.ref (a 0), .int 0, .ref (a 2), .ref (a 3), .ref (a 4), .ref (a 5), .ref (a 6), .ref (a 7), .ref (a 8), .ref (a 9), .int 0, .int 0])) := (by rw [eu7]; exact (hp_up_ne _ _ (hp_neK f4 f6 (by decide))).trans f4)
  refine hp_get (C := RX11) (T := TX11) (N := 12) (ci := 11) cx hw i_x_program_X11 rfl f11 6 (by decide) m_x_program_f50 (v := .ref (a 6)) rfl dX11_program_23 ?_
  have f12 : g1 (a 6) = some (.inr (8, [.ref (a 4), .ref (sa 1), .int 0, .int 0, .int 0])) := (by rw [eg1]; exact (hp_up_ne _ _ (hp_neK hsu hh (by decide))).trans hsu)
  have f13 : g3 (a 6) = some (.inr (8, [.ref (a 4), .ref (sa 1), .int 0, .int 0, .int 0])) := (by rw [eg3]; exact (hp_up_ne _ _ (hp_neK f12 f2 (by decide))).trans f12)
  have f14 : u7 (a 6) = some (.inr (8, [.ref (a 4), .ref (sa 1), .int 0, .int 0, .int 0])) := (by rw [eu7]; exact (hp_up_ne _ _ (hp_neK f13 f6 (by decide))).trans f13)
  refine hp_callVv (As := []) (rest := []) cx hw (k_Survey_forget l D cA E _ u7 (a 6) [.ref (a 4), .ref (sa 1), .int 0, .int 0, .int 0] rfl f14) (cwV 0 cx.2.2.2.2.2.1 g_x_program_88_v_k_Survey_forget rfl rfl rfl (by decide +kernel) ⟨Nat.le_of_ble_eq_true rfl, Nat.le_of_ble_eq_true rfl⟩) f14 rfl rfl hl.1 rfl (Nat.le_of_ble_eq_true rfl) dX11_program_26 ⟨Nat.le_of_ble_eq_true rfl, Nat.le_of_ble_eq_true rfl⟩ (fun u15 H locs hp17 hw => ?_)
  have eu15 : u15 = hp_up u7 (a 6) (.inr (8, [.ref (a 4), .ref (sa 1), .int 0, .int 0, .int 0])) := hp17
  have f18 : u15 (a 6) = some (.inr (8, [.ref (a 4), .ref (sa 1), .int 0, .int 0, .int 0])) := (by rw [eu15]; exact hp_up_self _ _ _)
  refine lv_aload_n cx.1 cx.2.1 dX11_program_29 rfl (lv_at hl 1 rfl) ?_
  have f19 : u15 h = some (.inr (11, [.ref (a 0), .int 0, .ref (a 2), .ref (a 3), .ref (a 4), .ref (a 5), .ref (a 6), .ref (a 7), .ref (a 8), .ref (a 9), .int 0, .int 0])) := (by rw [eu15]; exact (hp_up_ne _ _ (hp_neK f11 f14 (by decide))).trans f11)
  refine hp_get (C := RX11) (T := TX11) (N := 12) (ci := 11) cx hw i_x_program_X11 rfl f19 2 (by decide) m_x_program_f16 (v := .ref (a 2)) rfl dX11_program_30 ?_
  refine lv_aload_n cx.1 cx.2.1 dX11_program_33 rfl (lv_at hl 1 rfl) ?_
  refine hp_get (C := RX11) (T := TX11) (N := 12) (ci := 11) cx hw i_x_program_X11 rfl f19 0 (by decide) m_x_program_f9 (v := .ref (a 0)) rfl dX11_program_34 ?_
  refine lv_iload_n cx.1 cx.2.1 dX11_program_37 rfl (lv_at hl 0 rfl) ?_
  refine lv_iconst (v := 4) cx.1 cx.2.1 dX11_program_38 (by decide) ?_
  have f20 : g1 (a 2) = some (.inr (10, [.ref (wa 0), .ref (wa 1), .ref (wa 2), .ref (wa 3), .int 0, .int 0, .int 0, .int 0, .int 0, .int 0, .long 0])) := (by rw [eg1]; exact (hp_up_ne _ _ (hp_neK hwd hh (by decide))).trans hwd)
  have f21 : g3 (a 2) = some (.inr (10, [.ref (wa 0), .ref (wa 1), .ref (wa 2), .ref (wa 3), .int 0, .int 0, .int 0, .int 0, .int 0, .int 0, .long 0])) := (by rw [eg3]; exact (hp_up_ne _ _ (hp_neK f20 f2 (by decide))).trans f20)
  have f22 : u7 (a 2) = some (.inr (10, [.ref (wa 0), .ref (wa 1), .ref (wa 2), .ref (wa 3), .int 0, .int 0, .int 0, .int 0, .int 0, .int 0, .long 0])) := (by rw [eu7]; exact (hp_up_ne _ _ (hp_neK f21 f6 (by decide))).trans f21)
  have f23 : u15 (a 2) = some (.inr (10, [.ref (wa 0), .ref (wa 1), .ref (wa 2), .ref (wa 3), .int 0, .int 0, .int 0, .int 0, .int 0, .int 0, .long 0])) := (by rw [eu15]; exact (hp_up_ne _ _ (hp_neK f22 f14 (by decide))).trans f22)
  have f24 : g1 (wa 1) = some (.inr (6, [.ref (wa 11), .int 0])) := (by rw [eg1]; exact (hp_up_ne _ _ (hp_neK hf1 hh (by decide))).trans hf1)
  have f25 : g3 (wa 1) = some (.inr (6, [.ref (wa 11), .int 0])) := (by rw [eg3]; exact (hp_up_ne _ _ (hp_neK f24 f2 (by decide))).trans f24)
  have f26 : u7 (wa 1) = some (.inr (6, [.ref (wa 11), .int 0])) := (by rw [eu7]; exact (hp_up_ne _ _ (hp_neK f25 f6 (by decide))).trans f25)
  have f27 : u15 (wa 1) = some (.inr (6, [.ref (wa 11), .int 0])) := (by rw [eu15]; exact (hp_up_ne _ _ (hp_neK f26 f14 (by decide))).trans f26)
  have f28 : g1 (wa 11) = some (.inl (cA 2, 192, .inr (.inl (fun _ => 0)))) := (by rw [eg1]; exact (hp_up_ne _ _ (hp_neAO hf11 hh)).trans hf11)
  have f29 : g3 (wa 11) = some (.inl (cA 2, 192, .inr (.inl (fun _ => 0)))) := (by rw [eg3]; exact (hp_up_ne _ _ (hp_neAO f28 f2)).trans f28)
  have f30 : u7 (wa 11) = some (.inl (cA 2, 192, .inr (.inl (fun _ => 0)))) := (by rw [eu7]; exact (hp_up_ne _ _ (hp_neAO f29 f6)).trans f29)
  have f31 : u15 (wa 11) = some (.inl (cA 2, 192, .inr (.inl (fun _ => 0)))) := (by rw [eu15]; exact (hp_up_ne _ _ (hp_neAO f30 f14)).trans f30)
  have f32 : g1 (wa 2) = some (.inr (6, [.ref (wa 12), .int 0])) := (by rw [eg1]; exact (hp_up_ne _ _ (hp_neK hf2 hh (by decide))).trans hf2)
  have f33 : g3 (wa 2) = some (.inr (6, [.ref (wa 12), .int 0])) := (by rw [eg3]; exact (hp_up_ne _ _ (hp_neK f32 f2 (by decide))).trans f32)
  have f34 : u7 (wa 2) = some (.inr (6, [.ref (wa 12), .int 0])) := (by rw [eu7]; exact (hp_up_ne _ _ (hp_neK f33 f6 (by decide))).trans f33)
  have f35 : u15 (wa 2) = some (.inr (6, [.ref (wa 12), .int 0])) := (by rw [eu15]; exact (hp_up_ne _ _ (hp_neK f34 f14 (by decide))).trans f34)
  refine hp_callVv (As := [.ref (a 0), .int 0, .int 4]) (rest := []) cx hw (w_begin0 l D cA E _ u15 (a 2) (wa 0) (wa 1) (wa 2) (wa 3) 0 0 0 0 0 0 0 f23 (wa 11) (fun _ => 0) f27 f31 (wa 12) f35 hne (a 0) 4) (cwV 3 cx.2.2.2.2.2.1 g_x_program_89_v_w_begin0 rfl rfl rfl (by decide +kernel) ⟨Nat.le_of_ble_eq_true rfl, Nat.le_of_ble_eq_true rfl⟩) f23 rfl rfl hl.1 rfl (Nat.le_of_ble_eq_true rfl) dX11_program_39 ⟨Nat.le_of_ble_eq_true rfl, Nat.le_of_ble_eq_true rfl⟩ (fun u36 H locs hp38 hw => ?_)
  obtain ⟨hx39, f40⟩ := hp38
  refine lv_aload_n cx.1 cx.2.1 dX11_program_42 rfl (lv_at hl 1 rfl) ?_
  have f41 : u36 h = some (.inr (11, [.ref (a 0), .int 0, .ref (a 2), .ref (a 3), .ref (a 4), .ref (a 5), .ref (a 6), .ref (a 7), .ref (a 8), .ref (a 9), .int 0, .int 0])) := hx39 _ _ (nm_4 (hp_neK f19 f23 (by decide)) (hp_neOA f19 f31) (hp_neK f19 f27 (by decide)) (hp_neK f19 f35 (by decide))) f19
  refine hp_get (C := RX11) (T := TX11) (N := 12) (ci := 11) cx hw i_x_program_X11 rfl f41 5 (by decide) m_x_program_f41 (v := .ref (a 5)) rfl dX11_program_43 ?_
  have f42 : g1 (a 5) = some (.inr (4, [.ref (a 2), .ref (a 4), .ref (a 3), .ref (ra 3), .ref (ra 4), .ref (ra 5), .int 0, .ref m0, .ref m0, .int 0, .int 0, .int 0, .int (-1)])) := (by rw [eg1]; exact (hp_up_ne _ _ (hp_neK hre hh (by decide))).trans hre)
  have f43 : g3 (a 5) = some (.inr (4, [.ref (a 2), .ref (a 4), .ref (a 3), .ref (ra 3), .ref (ra 4), .ref (ra 5), .int 0, .ref m0, .ref m0, .int 0, .int 0, .int 0, .int (-1)])) := (by rw [eg3]; exact (hp_up_ne _ _ (hp_neK f42 f2 (by decide))).trans f42)
  have f44 : u7 (a 5) = some (.inr (4, [.ref (a 2), .ref (a 4), .ref (a 3), .ref (ra 3), .ref (ra 4), .ref (ra 5), .int 0, .ref m0, .ref m0, .int 0, .int 0, .int 0, .int (-1)])) := (by rw [eu7]; exact (hp_up_ne _ _ (hp_neK f43 f6 (by decide))).trans f43)
  have f45 : u15 (a 5) = some (.inr (4, [.ref (a 2), .ref (a 4), .ref (a 3), .ref (ra 3), .ref (ra 4), .ref (ra 5), .int 0, .ref m0, .ref m0, .int 0, .int 0, .int 0, .int (-1)])) := (by rw [eu15]; exact (hp_up_ne _ _ (hp_neK f44 f14 (by decide))).trans f44)
  have f46 : u36 (a 5) = some (.inr (4, [.ref (a 2), .ref (a 4), .ref (a 3), .ref (ra 3), .ref (ra 4), .ref (ra 5), .int 0, .ref m0, .ref m0, .int 0, .int 0, .int 0, .int (-1)])) := hx39 _ _ (nm_4 (hp_neK f45 f23 (by decide)) (hp_neOA f45 f31) (hp_neK f45 f27 (by decide)) (hp_neK f45 f35 (by decide))) f45
  have f47 : g1 (a 4) = some (.inr (2, [.ref (a 3), .ref (pl 1), .int 0, .ref (pl 3), .ref (pl 4), .ref (pl 5), .ref (pl 6), .ref (pl 7), .ref (pl 8), .ref (pl 9), .int 0, .ref (pl 11), .int 0, .ref (pl 13), .int 0, .ref (pl 15)])) := (by rw [eg1]; exact (hp_up_ne _ _ (hp_neK hpl hh (by decide))).trans hpl)
  have f48 : g3 (a 4) = some (.inr (2, [.ref (a 3), .ref (pl 1), .int 0, .ref (pl 3), .ref (pl 4), .ref (pl 5), .ref (pl 6), .ref (pl 7), .ref (pl 8), .ref (pl 9), .int 0, .ref (pl 11), .int 0, .ref (pl 13), .int 0, .ref (pl 15)])) := (by rw [eg3]; exact (hp_up_ne _ _ (hp_neK f47 f2 (by decide))).trans f47)
  have f49 : u7 (a 4) = some (.inr (2, [.ref (a 3), .ref (pl 1), .int 0, .ref (pl 3), .ref (pl 4), .ref (pl 5), .ref (pl 6), .ref (pl 7), .ref (pl 8), .ref (pl 9), .int 0, .ref (pl 11), .int 0, .ref (pl 13), .int 0, .ref (pl 15)])) := (by rw [eu7]; exact (hp_up_ne _ _ (hp_neK f48 f6 (by decide))).trans f48)
  have f50 : u15 (a 4) = some (.inr (2, [.ref (a 3), .ref (pl 1), .int 0, .ref (pl 3), .ref (pl 4), .ref (pl 5), .ref (pl 6), .ref (pl 7), .ref (pl 8), .ref (pl 9), .int 0, .ref (pl 11), .int 0, .ref (pl 13), .int 0, .ref (pl 15)])) := (by rw [eu15]; exact (hp_up_ne _ _ (hp_neK f49 f14 (by decide))).trans f49)
  have f51 : u36 (a 4) = some (.inr (2, [.ref (a 3), .ref (pl 1), .int 0, .ref (pl 3), .ref (pl 4), .ref (pl 5), .ref (pl 6), .ref (pl 7), .ref (pl 8), .ref (pl 9), .int 0, .ref (pl 11), .int 0, .ref (pl 13), .int 0, .ref (pl 15)])) := hx39 _ _ (nm_4 (hp_neK f50 f23 (by decide)) (hp_neOA f50 f31) (hp_neK f50 f27 (by decide)) (hp_neK f50 f35 (by decide))) f50
  have f52 : g1 (a 3) = some (.inr (3, [.ref (pa 0), .ref (pa 1), .ref (pa 2), .ref (pa 3), .ref (pa 4), .ref (pa 5), .ref (pa 6), .ref (pa 7), .ref (pa 8), .ref (pa 9), .int 0, .int 0, .int 0, .int 0])) := (by rw [eg1]; exact (hp_up_ne _ _ (hp_neK hpo hh (by decide))).trans hpo)
  have f53 : g3 (a 3) = some (.inr (3, [.ref (pa 0), .ref (pa 1), .ref (pa 2), .ref (pa 3), .ref (pa 4), .ref (pa 5), .ref (pa 6), .ref (pa 7), .ref (pa 8), .ref (pa 9), .int 0, .int 0, .int 0, .int 0])) := (by rw [eg3]; exact (hp_up_ne _ _ (hp_neK f52 f2 (by decide))).trans f52)
  have f54 : u7 (a 3) = some (.inr (3, [.ref (pa 0), .ref (pa 1), .ref (pa 2), .ref (pa 3), .ref (pa 4), .ref (pa 5), .ref (pa 6), .ref (pa 7), .ref (pa 8), .ref (pa 9), .int 0, .int 0, .int 0, .int 0])) := (by rw [eu7]; exact (hp_up_ne _ _ (hp_neK f53 f6 (by decide))).trans f53)
  have f55 : u15 (a 3) = some (.inr (3, [.ref (pa 0), .ref (pa 1), .ref (pa 2), .ref (pa 3), .ref (pa 4), .ref (pa 5), .ref (pa 6), .ref (pa 7), .ref (pa 8), .ref (pa 9), .int 0, .int 0, .int 0, .int 0])) := (by rw [eu15]; exact (hp_up_ne _ _ (hp_neK f54 f14 (by decide))).trans f54)
  have f56 : u36 (a 3) = some (.inr (3, [.ref (pa 0), .ref (pa 1), .ref (pa 2), .ref (pa 3), .ref (pa 4), .ref (pa 5), .ref (pa 6), .ref (pa 7), .ref (pa 8), .ref (pa 9), .int 0, .int 0, .int 0, .int 0])) := hx39 _ _ (nm_4 (hp_neK f55 f23 (by decide)) (hp_neOA f55 f31) (hp_neK f55 f27 (by decide)) (hp_neK f55 f35 (by decide))) f55
  refine hp_callVv (As := []) (rest := []) cx hw (k_readGrants0 l D cA E _ u36 (a 5) (a 4) (a 3) ra m0 m0 0 0 0 0 (-1) (a 2) (wa 0) (wa 1) (wa 2) (a 0) 0 4 0 1 0 0 0 f40 f46 pl 0 0 0 0 f51 [.ref (pa 0), .ref (pa 1), .ref (pa 2), .ref (pa 3), .ref (pa 4), .ref (pa 5), .ref (pa 6), .ref (pa 7), .ref (pa 8), .ref (pa 9), .int 0, .int 0, .int 0, .int 0] rfl f56 (by decide)) (cwV 0 cx.2.2.2.2.2.1 g_x_program_93_v_k_readGrants0 rfl rfl rfl (by decide +kernel) ⟨Nat.le_of_ble_eq_true rfl, Nat.le_of_ble_eq_true rfl⟩) f46 rfl rfl hl.1 rfl (Nat.le_of_ble_eq_true rfl) dX11_program_46 ⟨Nat.le_of_ble_eq_true rfl, Nat.le_of_ble_eq_true rfl⟩ (fun u57 H locs hp59 hw => ?_)
  obtain ⟨hx60, f61, f62⟩ := hp59
  refine lv_iconst (v := 0) cx.1 cx.2.1 dX11_program_49 (by decide) ?_
  refine lv_istore_n (lv' := [(2, .int 0), (1, .int 0), (0, .ref h)]) cx.1 cx.2.1 dX11_program_50 rfl hl (by decide) rfl (fun ls hl => ?_)
  refine lv_iload_n cx.1 cx.2.1 dX11_program_51 rfl (lv_at hl 0 rfl) ?_
  refine lv_bipush (v := 8) cx.1 cx.2.1 dX11_program_52 (by decide) ?_
  refine lv_icmp_gt (tgt := 80) cx.1 cx.2.1 dX11_program_54 (by decide) (fun c54_63 => ?_) (fun c54_63 => ?_)
  · exact absurd c54_63 (by decide)
  refine lv_aload_n cx.1 cx.2.1 dX11_program_57 rfl (lv_at hl 2 rfl) ?_
  have f64 : u57 h = some (.inr (11, [.ref (a 0), .int 0, .ref (a 2), .ref (a 3), .ref (a 4), .ref (a 5), .ref (a 6), .ref (a 7), .ref (a 8), .ref (a 9), .int 0, .int 0])) := hx60 _ _ (nm_3 (hp_neK f41 f56 (by decide)) (hp_neK f41 f51 (by decide)) (hp_neK f41 f46 (by decide))) f41
  refine hp_get (C := RX11) (T := TX11) (N := 12) (ci := 11) cx hw i_x_program_X11 rfl f64 5 (by decide) m_x_program_f41 (v := .ref (a 5)) rfl dX11_program_58 ?_
  have f65 : u57 (a 2) = some (.inr (10, [.ref (wa 0), .ref (wa 1), .ref (wa 2), .ref (a 0), .int 0, .int 4, .int 0, .int 1, .int 0, .int 0, .long 0])) := hx60 _ _ (nm_3 (hp_neK f40 f56 (by decide)) (hp_neK f40 f51 (by decide)) (hp_neK f40 f46 (by decide))) f40
  exact hp_callXi (As := []) (rest := []) cx hw hno (x_hasModule l D cA E _ u57 hst hth sr hsr (a 5) (a 2) (a 4) (a 3) ra m0 m0 0 0 0 0 (-1) f61 pl 0 0 0 f62 (wa 0) (wa 1) (wa 2) (a 0) 0 4 0 1 0 0 f65) (cwV 0 cx.2.2.2.2.2.1 g_x_program_96_v_x_hasModule rfl rfl rfl (by decide +kernel) ⟨Nat.le_of_ble_eq_true rfl, Nat.le_of_ble_eq_true rfl⟩) f61 rfl rfl hl.1 rfl (Nat.le_of_ble_eq_true rfl) dX11_program_61 ⟨Nat.le_of_ble_eq_true rfl, Nat.le_of_ble_eq_true rfl⟩ (Nat.le_of_ble_eq_true rfl) (Nat.le_of_ble_eq_true rfl)

def lk_x_run : List Cond := [Cond.fieldLink RX11 81 "WardenHouse" "planned" "Z", Cond.classLink RX11 206 "java/lang/IllegalStateException", Cond.initialized "java/lang/IllegalStateException"]
def v_x_run : List Cond := .code yX11_run cX11_run 6 (some .int) :: (lk_x_run ++ (wsX110 ++ (at_X11_210 ++ [])))
theorem m_x_run_f81 : Cond.fieldLink RX11 81 "WardenHouse" "planned" "Z" ∈ v_x_run := List.mem_cons_of_mem _ (List.mem_append_left _ (List.mem_of_getElem? (i := 0) rfl))
theorem m_x_run_k206 : Cond.classLink RX11 206 "java/lang/IllegalStateException" ∈ v_x_run := List.mem_cons_of_mem _ (List.mem_append_left _ (List.mem_of_getElem? (i := 1) rfl))
theorem m_x_run_zX : Cond.initialized "java/lang/IllegalStateException" ∈ v_x_run := List.mem_cons_of_mem _ (List.mem_append_left _ (List.mem_of_getElem? (i := 2) rfl))
theorem i_x_run_X11 : ∀ w ∈ wsX110, w ∈ v_x_run := fun _ h => List.mem_cons_of_mem _ (List.mem_append_right _ (List.mem_append_left _ h))
theorem j_x_run_at_X11_210 : ∀ w ∈ at_X11_210, w ∈ v_x_run := fun _ h => List.mem_cons_of_mem _ (List.mem_append_right _ (List.mem_append_right _ (List.mem_append_left _ h)))
theorem gk_x_run : lk_x_run.all goodWord = true := by decide +kernel
theorem gd_v_x_run : ∀ w ∈ v_x_run, gdW w := fun w h => (List.mem_cons.mp h).elim (fun e => by rw [e]; exact good_of_word rfl) (fun h => (List.mem_append.mp h).elim (fun h => good_of_word (List.all_eq_true.mp gk_x_run w h)) (fun h => (List.mem_append.mp h).elim (gd_wsX110 w) (fun h => (List.mem_append.mp h).elim (gd_at_X11_210 w) (fun h => nomatch h))))
set_option maxHeartbeats 4000000 in
set_option maxRecDepth 100000 in
theorem x_run (l : Launch) (D : va_G) (cA : Nat → ClassId) (E : hp_N) (sz : Nat) (g : hp_M) (hst : l.stackTraces = false) (hth : st_thr E "java/lang/IllegalStateException") (sr : Nat) (hsr : ∀ A U H, E A U H → vk_R "WardenHouse" 208 "there is no program" sr U) (h : Nat) (hf : fr_House cA g h) (x y z t : Int32) : vx_Met l yX11_run v_x_run ({ frames := 6, cells := 1, slots := 6, locals := 82 }) (hp_Pc D vwCl (hp_Tl cA) E sz g [.ref h, .int x, .int y, .int z, .int t]) (hp_Qi D vwCl (hp_Tl cA) sz g (fun _ _ => False)) (hp_XC "java/lang/IllegalStateException" g sz) 1 6 (hp_A g sz) := by
  refine hp_ofWx (cc := cX11_run) (maxL := 6) (ret := (some .int)) (by decide) rfl (Nat.le_of_ble_eq_true rfl) ?_
  intro pp ee ss mm bb mt cd ls cx hsz hw hl hno
  have hl : lv_has ls 6 [(0, .ref h), (1, .int x), (2, .int y), (3, .int z), (4, .int t)] := hl
  obtain ⟨a, hh, ht, wa, pa, pl, ra, sa, ma, m0, hwd, hf1, hf11, hf2, hne, hpo, hpl, hre, hsu, hma⟩ := hf
  refine lv_aload_n cx.1 cx.2.1 dX11_run_0 rfl (lv_at hl 0 rfl) ?_
  refine hp_get (C := RX11) (T := TX11) (N := 12) (ci := 11) cx hw i_x_run_X11 rfl hh 10 (by decide) m_x_run_f81 (v := .int 0) rfl dX11_run_1 ?_
  refine lv_if_ne (tgt := 17) cx.1 cx.2.1 dX11_run_4 (by decide) (fun c4_1 => ?_) (fun c4_1 => ?_)
  · exact absurd c4_1 (by decide)
  exact hp_throwS (X := "java/lang/IllegalStateException") (text := "there is no program") (names := ["java/lang/RuntimeException", "java/lang/Exception"]) cx hw hno hst (by decide +kernel) (by decide +kernel) m_x_run_k206 m_x_run_zX hsr j_x_run_at_X11_210 (by decide +kernel) (by decide +kernel) hth hl.1 dX11_run_7 dX11_run_10 dX11_run_11 dX11_run_13 dX11_run_16 (Nat.le_of_ble_eq_true rfl) (Nat.le_of_ble_eq_true rfl) (Nat.le_of_ble_eq_true rfl) (Nat.le_of_ble_eq_true rfl) (Nat.le_of_ble_eq_true rfl) (Nat.le_of_ble_eq_true rfl)
