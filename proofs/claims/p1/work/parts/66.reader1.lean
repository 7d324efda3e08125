theorem gd_wsX20 : ∀ w ∈ wsX20, gdW w := gdW_of (by decide +kernel)
theorem gd_wsX30 : ∀ w ∈ wsX30, gdW w := gdW_of (by decide +kernel)
theorem gd_wsX80 : ∀ w ∈ wsX80, gdW w := gdW_of (by decide +kernel)
abbrev cX4_readGrants : ByteArray := prog_6_method_2_code
def yX4_readGrants : MethodName := ⟨RX4, "readGrants", "()V"⟩
abbrev cX11_asks : ByteArray := prog_1_method_13_code
def yX11_asks : MethodName := ⟨RX11, "asks", "()Z"⟩
theorem dX4_readGrants_0 : decode cX4_readGrants 0 = .ok (.aload_n 0, 1) := by decide +kernel
theorem dX4_readGrants_1 : decode cX4_readGrants 1 = .ok (.getfield 15, 3) := by decide +kernel
theorem dX4_readGrants_4 : decode cX4_readGrants 4 = .ok (.invokevirtual 55, 3) := by decide +kernel
theorem dX4_readGrants_7 : decode cX4_readGrants 7 = .ok (.aload_n 0, 1) := by decide +kernel
theorem dX4_readGrants_8 : decode cX4_readGrants 8 = .ok (.iconst 0, 1) := by decide +kernel
theorem dX4_readGrants_9 : decode cX4_readGrants 9 = .ok (.putfield 58, 3) := by decide +kernel
theorem dX4_readGrants_12 : decode cX4_readGrants 12 = .ok (.aload_n 0, 1) := by decide +kernel
theorem dX4_readGrants_13 : decode cX4_readGrants 13 = .ok (.iconst 0, 1) := by decide +kernel
theorem dX4_readGrants_14 : decode cX4_readGrants 14 = .ok (.putfield 61, 3) := by decide +kernel
theorem dX4_readGrants_17 : decode cX4_readGrants 17 = .ok (.aload_n 0, 1) := by decide +kernel
theorem dX4_readGrants_18 : decode cX4_readGrants 18 = .ok (.iconst 0, 1) := by decide +kernel
theorem dX4_readGrants_19 : decode cX4_readGrants 19 = .ok (.putfield 64, 3) := by decide +kernel
theorem dX4_readGrants_22 : decode cX4_readGrants 22 = .ok (.aload_n 0, 1) := by decide +kernel
theorem dX4_readGrants_23 : decode cX4_readGrants 23 = .ok (.iconst (-1), 1) := by decide +kernel
theorem dX4_readGrants_24 : decode cX4_readGrants 24 = .ok (.putfield 51, 3) := by decide +kernel
theorem dX4_readGrants_27 : decode cX4_readGrants 27 = .ok (.iconst 0, 1) := by decide +kernel
theorem dX4_readGrants_28 : decode cX4_readGrants 28 = .ok (.istore_n 1, 1) := by decide +kernel
theorem dX4_readGrants_29 : decode cX4_readGrants 29 = .ok (.iload_n 1, 1) := by decide +kernel
theorem dX4_readGrants_30 : decode cX4_readGrants 30 = .ok (.bipush 8, 2) := by decide +kernel
theorem dX4_readGrants_32 : decode cX4_readGrants 32 = .ok (.if_icmp .gt 41, 3) := by decide +kernel
theorem dX4_readGrants_35 : decode cX4_readGrants 35 = .ok (.aload_n 0, 1) := by decide +kernel
theorem dX4_readGrants_36 : decode cX4_readGrants 36 = .ok (.getfield 9, 3) := by decide +kernel
theorem dX4_readGrants_39 : decode cX4_readGrants 39 = .ok (.getfield 67, 3) := by decide +kernel
theorem dX4_readGrants_42 : decode cX4_readGrants 42 = .ok (.sipush 210, 3) := by decide +kernel
theorem dX4_readGrants_45 : decode cX4_readGrants 45 = .ok (.if_icmp .ne 28, 3) := by decide +kernel
theorem dX4_readGrants_73 : decode cX4_readGrants 73 = .ok (.return_, 1) := by decide +kernel
theorem dX11_asks_0 : decode cX11_asks 0 = .ok (.aload_n 0, 1) := by decide +kernel
theorem dX11_asks_1 : decode cX11_asks 1 = .ok (.getfield 73, 3) := by decide +kernel
theorem dX11_asks_4 : decode cX11_asks 4 = .ok (.istore_n 1, 1) := by decide +kernel
theorem dX11_asks_5 : decode cX11_asks 5 = .ok (.aload_n 0, 1) := by decide +kernel
theorem dX11_asks_6 : decode cX11_asks 6 = .ok (.iconst 0, 1) := by decide +kernel
theorem dX11_asks_7 : decode cX11_asks 7 = .ok (.putfield 73, 3) := by decide +kernel
theorem dX11_asks_10 : decode cX11_asks 10 = .ok (.aload_n 0, 1) := by decide +kernel
theorem dX11_asks_11 : decode cX11_asks 11 = .ok (.getfield 16, 3) := by decide +kernel
theorem dX11_asks_14 : decode cX11_asks 14 = .ok (.aload_n 0, 1) := by decide +kernel
theorem dX11_asks_15 : decode cX11_asks 15 = .ok (.getfield 9, 3) := by decide +kernel
theorem dX11_asks_18 : decode cX11_asks 18 = .ok (.iload_n 1, 1) := by decide +kernel
theorem dX11_asks_19 : decode cX11_asks 19 = .ok (.iconst 5, 1) := by decide +kernel
theorem dX11_asks_20 : decode cX11_asks 20 = .ok (.invokevirtual 89, 3) := by decide +kernel
theorem dX11_asks_23 : decode cX11_asks 23 = .ok (.aload_n 0, 1) := by decide +kernel
theorem dX11_asks_24 : decode cX11_asks 24 = .ok (.getfield 16, 3) := by decide +kernel
theorem dX11_asks_27 : decode cX11_asks 27 = .ok (.getfield 162, 3) := by decide +kernel
theorem dX11_asks_30 : decode cX11_asks 30 = .ok (.iconst 2, 1) := by decide +kernel
theorem dX11_asks_31 : decode cX11_asks 31 = .ok (.if_icmp .eq 5, 3) := by decide +kernel
theorem dX11_asks_34 : decode cX11_asks 34 = .ok (.iconst 0, 1) := by decide +kernel
theorem dX11_asks_35 : decode cX11_asks 35 = .ok (.ireturn, 1) := by decide +kernel
def lk_k_Machine_forget : List Cond := [Cond.fieldLink RX1 57 "WardenHouse$Machine" "ran" "Z"]
def v_k_Machine_forget : List Cond := .code yX1_forget cX1_forget 1 none :: (lk_k_Machine_forget ++ (wsX10 ++ []))
theorem m_k_Machine_forget_f57 : Cond.fieldLink RX1 57 "WardenHouse$Machine" "ran" "Z" ∈ v_k_Machine_forget := List.mem_cons_of_mem _ (List.mem_append_left _ (List.mem_of_getElem? (i := 0) rfl))
theorem i_k_Machine_forget_X1 : ∀ w ∈ wsX10, w ∈ v_k_Machine_forget := fun _ h => List.mem_cons_of_mem _ (List.mem_append_right _ (List.mem_append_left _ h))
theorem gk_k_Machine_forget : lk_k_Machine_forget.all goodWord = true := by decide +kernel
theorem gd_v_k_Machine_forget : ∀ w ∈ v_k_Machine_forget, gdW w := fun w h => (List.mem_cons.mp h).elim (fun e => by rw [e]; exact good_of_word rfl) (fun h => (List.mem_append.mp h).elim (fun h => good_of_word (List.all_eq_true.mp gk_k_Machine_forget w h)) (fun h => (List.mem_append.mp h).elim (gd_wsX10 w) (fun h => nomatch h)))
set_option maxHeartbeats 4000000 in
set_option maxRecDepth 100000 in
theorem k_Machine_forget (l : Launch) (D : va_G) (cA : Nat → ClassId) (E : hp_N) (sz : Nat) (g : hp_M) (h : Nat) (fs : List Value) (hL : fs.length = 20) (hh : g h = some (.inr (1, fs))) : Met l yX1_forget v_k_Machine_forget ({ frames := 0, cells := 0, slots := 0, locals := 0 }) (hp_Pc D vwCl (hp_Tl cA) E sz g [.ref h]) (hp_Qv D vwCl (hp_Tl cA) sz g (fun u => u = hp_up g h (.inr (1, fs.set 19 (.int 0))))) 0 0 (hp_A g sz) := by
  refine hp_ofW (cc := cX1_forget) (maxL := 1) (ret := none) (by decide) rfl (Nat.le_of_ble_eq_true rfl) ?_
  intro pp ee ss mm bb mt cd ls cx hsz hw hl
  have hl : lv_has ls 1 [(0, .ref h)] := hl
  refine lv_aload_n cx.1 cx.2.1 dX1_forget_0 rfl (lv_at hl 0 rfl) ?_
  refine lv_iconst (v := 0) cx.1 cx.2.1 dX1_forget_1 (by decide) ?_
  obtain ⟨F2, eF2⟩ : ∃ F1, F1 = fs.set 19 (.int 0) := ⟨_, rfl⟩
  have lF2 : F2.length = 20 := by rw [eF2, List.length_set]; exact hL
  have vF2 : F2[19]? = some (.int 0) := by rw [eF2]; exact fl_self (by rw [hL]; decide)
  refine hp_put (C := RX1) (T := TX1) (N := 20) (ci := 1) (fs' := F2) cx hw i_k_Machine_forget_X1 tyX1_ok nmX1 rfl hh 19 (by decide) m_k_Machine_forget_f57 rfl  (by decide) (by decide) (by rw [hL]; decide) eF2.symm dX1_forget_2 (fun g1 H locs eg1 hw => ?_)
  have f3 : g1 h = some (.inr (1, F2)) := (by rw [eg1]; exact hp_up_self _ _ _)
  exact hp_vret cx hw (by rw [eg1, eF2]) dX1_forget_5

def lk_k_Survey_forget : List Cond := [Cond.fieldLink RX8 19 "WardenHouse$Survey" "done" "Z"]
def v_k_Survey_forget : List Cond := .code yX8_forget cX8_forget 1 none :: (lk_k_Survey_forget ++ (wsX80 ++ []))
theorem m_k_Survey_forget_f19 : Cond.fieldLink RX8 19 "WardenHouse$Survey" "done" "Z" ∈ v_k_Survey_forget := List.mem_cons_of_mem _ (List.mem_append_left _ (List.mem_of_getElem? (i := 0) rfl))
theorem i_k_Survey_forget_X8 : ∀ w ∈ wsX80, w ∈ v_k_Survey_forget := fun _ h => List.mem_cons_of_mem _ (List.mem_append_right _ (List.mem_append_left _ h))
theorem gk_k_Survey_forget : lk_k_Survey_forget.all goodWord = true := by decide +kernel
theorem gd_v_k_Survey_forget : ∀ w ∈ v_k_Survey_forget, gdW w := fun w h => (List.mem_cons.mp h).elim (fun e => by rw [e]; exact good_of_word rfl) (fun h => (List.mem_append.mp h).elim (fun h => good_of_word (List.all_eq_true.mp gk_k_Survey_forget w h)) (fun h => (List.mem_append.mp h).elim (gd_wsX80 w) (fun h => nomatch h)))
set_option maxHeartbeats 4000000 in
set_option maxRecDepth 100000 in
theorem k_Survey_forget (l : Launch) (D : va_G) (cA : Nat → ClassId) (E : hp_N) (sz : Nat) (g : hp_M) (h : Nat) (fs : List Value) (hL : fs.length = 5) (hh : g h = some (.inr (8, fs))) : Met l yX8_forget v_k_Survey_forget ({ frames := 0, cells := 0, slots := 0, locals := 0 }) (hp_Pc D vwCl (hp_Tl cA) E sz g [.ref h]) (hp_Qv D vwCl (hp_Tl cA) sz g (fun u => u = hp_up g h (.inr (8, fs.set 4 (.int 0))))) 0 0 (hp_A g sz) := by
  refine hp_ofW (cc := cX8_forget) (maxL := 1) (ret := none) (by decide) rfl (Nat.le_of_ble_eq_true rfl) ?_
  intro pp ee ss mm bb mt cd ls cx hsz hw hl
  have hl : lv_has ls 1 [(0, .ref h)] := hl
  refine lv_aload_n cx.1 cx.2.1 dX8_forget_0 rfl (lv_at hl 0 rfl) ?_
  refine lv_iconst (v := 0) cx.1 cx.2.1 dX8_forget_1 (by decide) ?_
  obtain ⟨F2, eF2⟩ : ∃ F1, F1 = fs.set 4 (.int 0) := ⟨_, rfl⟩
  have lF2 : F2.length = 5 := by rw [eF2, List.length_set]; exact hL
  have vF2 : F2[4]? = some (.int 0) := by rw [eF2]; exact fl_self (by rw [hL]; decide)
  refine hp_put (C := RX8) (T := TX8) (N := 5) (ci := 8) (fs' := F2) cx hw i_k_Survey_forget_X8 tyX8_ok nmX8 rfl hh 4 (by decide) m_k_Survey_forget_f19 rfl  (by decide) (by decide) (by rw [hL]; decide) eF2.symm dX8_forget_2 (fun g1 H locs eg1 hw => ?_)
  have f3 : g1 h = some (.inr (8, F2)) := (by rw [eg1]; exact hp_up_self _ _ _)
  exact hp_vret cx hw (by rw [eg1, eF2]) dX8_forget_5

def lk_k_Policy_clear : List Cond := [Cond.fieldLink RX3 52 "WardenHouse$Policy" "grantCount" "I", Cond.fieldLink RX3 56 "WardenHouse$Policy" "limitCount" "I", Cond.fieldLink RX3 59 "WardenHouse$Policy" "domainCount" "I", Cond.fieldLink RX3 62 "WardenHouse$Policy" "askingCount" "I"]
def v_k_Policy_clear : List Cond := .code yX3_clear cX3_clear 1 none :: (lk_k_Policy_clear ++ (wsX30 ++ []))
theorem m_k_Policy_clear_f52 : Cond.fieldLink RX3 52 "WardenHouse$Policy" "grantCount" "I" ∈ v_k_Policy_clear := List.mem_cons_of_mem _ (List.mem_append_left _ (List.mem_of_getElem? (i := 0) rfl))
theorem m_k_Policy_clear_f56 : Cond.fieldLink RX3 56 "WardenHouse$Policy" "limitCount" "I" ∈ v_k_Policy_clear := List.mem_cons_of_mem _ (List.mem_append_left _ (List.mem_of_getElem? (i := 1) rfl))
theorem m_k_Policy_clear_f59 : Cond.fieldLink RX3 59 "WardenHouse$Policy" "domainCount" "I" ∈ v_k_Policy_clear := List.mem_cons_of_mem _ (List.mem_append_left _ (List.mem_of_getElem? (i := 2) rfl))
theorem m_k_Policy_clear_f62 : Cond.fieldLink RX3 62 "WardenHouse$Policy" "askingCount" "I" ∈ v_k_Policy_clear := List.mem_cons_of_mem _ (List.mem_append_left _ (List.mem_of_getElem? (i := 3) rfl))
theorem i_k_Policy_clear_X3 : ∀ w ∈ wsX30, w ∈ v_k_Policy_clear := fun _ h => List.mem_cons_of_mem _ (List.mem_append_right _ (List.mem_append_left _ h))
theorem gk_k_Policy_clear : lk_k_Policy_clear.all goodWord = true := by decide +kernel
theorem gd_v_k_Policy_clear : ∀ w ∈ v_k_Policy_clear, gdW w := fun w h => (List.mem_cons.mp h).elim (fun e => by rw [e]; exact good_of_word rfl) (fun h => (List.mem_append.mp h).elim (fun h => good_of_word (List.all_eq_true.mp gk_k_Policy_clear w h)) (fun h => (List.mem_append.mp h).elim (gd_wsX30 w) (fun h => nomatch h)))
set_option maxHeartbeats 4000000 in
set_option maxRecDepth 100000 in
theorem k_Policy_clear (l : Launch) (D : va_G) (cA : Nat → ClassId) (E : hp_N) (sz : Nat) (g : hp_M) (h : Nat) (fs : List Value) (hL : fs.length = 14) (hh : g h = some (.inr (3, fs))) : Met l yX3_clear v_k_Policy_clear ({ frames := 0, cells := 0, slots := 0, locals := 0 }) (hp_Pc D vwCl (hp_Tl cA) E sz g [.ref h]) (hp_Qv D vwCl (hp_Tl cA) sz g (fun u => hp_extX h g u ∧ ∃ fs1 : List Value, u h = some (.inr (3, fs1)) ∧ fs1.length = 14)) 0 0 (hp_A g sz) := by
  refine hp_ofW (cc := cX3_clear) (maxL := 1) (ret := none) (by decide) rfl (Nat.le_of_ble_eq_true rfl) ?_
  intro pp ee ss mm bb mt cd ls cx hsz hw hl
  have hl : lv_has ls 1 [(0, .ref h)] := hl
  refine lv_aload_n cx.1 cx.2.1 dX3_clear_0 rfl (lv_at hl 0 rfl) ?_
  refine lv_iconst (v := 0) cx.1 cx.2.1 dX3_clear_1 (by decide) ?_
  obtain ⟨F2, eF2⟩ : ∃ F1, F1 = fs.set 10 (.int 0) := ⟨_, rfl⟩
  have lF2 : F2.length = 14 := by rw [eF2, List.length_set]; exact hL
  have vF2 : F2[10]? = some (.int 0) := by rw [eF2]; exact fl_self (by rw [hL]; decide)
  refine hp_put (C := RX3) (T := TX3) (N := 14) (ci := 3) (fs' := F2) cx hw i_k_Policy_clear_X3 tyX3_ok nmX3 rfl hh 10 (by decide) m_k_Policy_clear_f52 rfl  rfl rfl (by rw [hL]; decide) eF2.symm dX3_clear_2 (fun g1 H locs eg1 hw => ?_)
  have f3 : g1 h = some (.inr (3, F2)) := (by rw [eg1]; exact hp_up_self _ _ _)
  refine lv_aload_n cx.1 cx.2.1 dX3_clear_5 rfl (lv_at hl 0 rfl) ?_
  refine lv_iconst (v := 0) cx.1 cx.2.1 dX3_clear_6 (by decide) ?_
  obtain ⟨F5, eF5⟩ : ∃ F1, F1 = F2.set 11 (.int 0) := ⟨_, rfl⟩
  have lF5 : F5.length = 14 := by rw [eF5, List.length_set]; exact lF2
  have vF5 : F5[11]? = some (.int 0) := by rw [eF5]; exact fl_self (by rw [lF2]; decide)
  refine hp_put (C := RX3) (T := TX3) (N := 14) (ci := 3) (fs' := F5) cx hw i_k_Policy_clear_X3 tyX3_ok nmX3 rfl f3 11 (by decide) m_k_Policy_clear_f56 rfl  rfl rfl (by rw [lF2]; decide) eF5.symm dX3_clear_7 (fun g4 H locs eg4 hw => ?_)
  have f6 : g4 h = some (.inr (3, F5)) := (by rw [eg4]; exact hp_up_self _ _ _)
  refine lv_aload_n cx.1 cx.2.1 dX3_clear_10 rfl (lv_at hl 0 rfl) ?_
  refine lv_iconst (v := 0) cx.1 cx.2.1 dX3_clear_11 (by decide) ?_
  obtain ⟨F8, eF8⟩ : ∃ F1, F1 = F5.set 12 (.int 0) := ⟨_, rfl⟩
  have lF8 : F8.length = 14 := by rw [eF8, List.length_set]; exact lF5
  have vF8 : F8[12]? = some (.int 0) := by rw [eF8]; exact fl_self (by rw [lF5]; decide)
  refine hp_put (C := RX3) (T := TX3) (N := 14) (ci := 3) (fs' := F8) cx hw i_k_Policy_clear_X3 tyX3_ok nmX3 rfl f6 12 (by decide) m_k_Policy_clear_f59 rfl  rfl rfl (by rw [lF5]; decide) eF8.symm dX3_clear_12 (fun g7 H locs eg7 hw => ?_)
  have f9 : g7 h = some (.inr (3, F8)) := (by rw [eg7]; exact hp_up_self _ _ _)
  refine lv_aload_n cx.1 cx.2.1 dX3_clear_15 rfl (lv_at hl 0 rfl) ?_
  refine lv_iconst (v := 0) cx.1 cx.2.1 dX3_clear_16 (by decide) ?_
  obtain ⟨F11, eF11⟩ : ∃ F1, F1 = F8.set 13 (.int 0) := ⟨_, rfl⟩
  have lF11 : F11.length = 14 := by rw [eF11, List.length_set]; exact lF8
  have vF11 : F11[13]? = some (.int 0) := by rw [eF11]; exact fl_self (by rw [lF8]; decide)
  refine hp_put (C := RX3) (T := TX3) (N := 14) (ci := 3) (fs' := F11) cx hw i_k_Policy_clear_X3 tyX3_ok nmX3 rfl f9 13 (by decide) m_k_Policy_clear_f62 rfl  rfl rfl (by rw [lF8]; decide) eF11.symm dX3_clear_17 (fun g10 H locs eg10 hw => ?_)
  have f12 : g10 h = some (.inr (3, F11)) := (by rw [eg10]; exact hp_up_self _ _ _)
  have hxt : hp_extX h g g10 := by
    intro b e hb hg
    have b_g1 : g1 b = some e := by rw [eg1]; exact (hp_up_ne _ _ (hb)).trans hg
    have b_g4 : g4 b = some e := by rw [eg4]; exact (hp_up_ne _ _ (hb)).trans b_g1
    have b_g7 : g7 b = some e := by rw [eg7]; exact (hp_up_ne _ _ (hb)).trans b_g4
    have b_g10 : g10 b = some e := by rw [eg10]; exact (hp_up_ne _ _ (hb)).trans b_g7
    exact b_g10
  exact hp_vret cx hw (⟨hxt, F11, f12, lF11⟩) dX3_clear_20

def lk_k_Plan_clear : List Cond := [Cond.fieldLink RX2 9 "WardenHouse$Plan" "policy" "LWardenHouse$Policy;", Cond.methodLink RX2 54 yX3_clear, Cond.instanceMethod yX3_clear, Cond.selects RX3 yX3_clear yX3_clear, Cond.initialized RX3, Cond.fieldLink RX2 59 "WardenHouse$Plan" "unitCount" "I", Cond.fieldLink RX2 63 "WardenHouse$Plan" "moduleCount" "I", Cond.fieldLink RX2 66 "WardenHouse$Plan" "numberCount" "I", Cond.fieldLink RX2 69 "WardenHouse$Plan" "nameCount" "I"]
def v_k_Plan_clear : List Cond := .code yX2_clear cX2_clear 1 none :: (lk_k_Plan_clear ++ (wsX20 ++ (v_k_Policy_clear ++ [])))
theorem m_k_Plan_clear_f9 : Cond.fieldLink RX2 9 "WardenHouse$Plan" "policy" "LWardenHouse$Policy;" ∈ v_k_Plan_clear := List.mem_cons_of_mem _ (List.mem_append_left _ (List.mem_of_getElem? (i := 0) rfl))
theorem m_k_Plan_clear_l54 : Cond.methodLink RX2 54 yX3_clear ∈ v_k_Plan_clear := List.mem_cons_of_mem _ (List.mem_append_left _ (List.mem_of_getElem? (i := 1) rfl))
theorem m_k_Plan_clear_j54 : Cond.instanceMethod yX3_clear ∈ v_k_Plan_clear := List.mem_cons_of_mem _ (List.mem_append_left _ (List.mem_of_getElem? (i := 2) rfl))
theorem m_k_Plan_clear_s54 : Cond.selects RX3 yX3_clear yX3_clear ∈ v_k_Plan_clear := List.mem_cons_of_mem _ (List.mem_append_left _ (List.mem_of_getElem? (i := 3) rfl))
theorem m_k_Plan_clear_z3 : Cond.initialized RX3 ∈ v_k_Plan_clear := List.mem_cons_of_mem _ (List.mem_append_left _ (List.mem_of_getElem? (i := 4) rfl))
theorem m_k_Plan_clear_f59 : Cond.fieldLink RX2 59 "WardenHouse$Plan" "unitCount" "I" ∈ v_k_Plan_clear := List.mem_cons_of_mem _ (List.mem_append_left _ (List.mem_of_getElem? (i := 5) rfl))
theorem m_k_Plan_clear_f63 : Cond.fieldLink RX2 63 "WardenHouse$Plan" "moduleCount" "I" ∈ v_k_Plan_clear := List.mem_cons_of_mem _ (List.mem_append_left _ (List.mem_of_getElem? (i := 6) rfl))
theorem m_k_Plan_clear_f66 : Cond.fieldLink RX2 66 "WardenHouse$Plan" "numberCount" "I" ∈ v_k_Plan_clear := List.mem_cons_of_mem _ (List.mem_append_left _ (List.mem_of_getElem? (i := 7) rfl))
theorem m_k_Plan_clear_f69 : Cond.fieldLink RX2 69 "WardenHouse$Plan" "nameCount" "I" ∈ v_k_Plan_clear := List.mem_cons_of_mem _ (List.mem_append_left _ (List.mem_of_getElem? (i := 8) rfl))
theorem i_k_Plan_clear_X2 : ∀ w ∈ wsX20, w ∈ v_k_Plan_clear := fun _ h => List.mem_cons_of_mem _ (List.mem_append_right _ (List.mem_append_left _ h))
theorem j_k_Plan_clear_v_k_Policy_clear : ∀ w ∈ v_k_Policy_clear, w ∈ v_k_Plan_clear := fun _ h => List.mem_cons_of_mem _ (List.mem_append_right _ (List.mem_append_right _ (List.mem_append_left _ h)))
theorem gk_k_Plan_clear : lk_k_Plan_clear.all goodWord = true := by decide +kernel
theorem gd_v_k_Plan_clear : ∀ w ∈ v_k_Plan_clear, gdW w := fun w h => (List.mem_cons.mp h).elim (fun e => by rw [e]; exact good_of_word rfl) (fun h => (List.mem_append.mp h).elim (fun h => good_of_word (List.all_eq_true.mp gk_k_Plan_clear w h)) (fun h => (List.mem_append.mp h).elim (gd_wsX20 w) (fun h => (List.mem_append.mp h).elim (gd_v_k_Policy_clear w) (fun h => nomatch h))))
theorem g_k_Plan_clear_54_v_k_Policy_clear : GoodIn v_k_Plan_clear (wsV RX2 54 RX3 yX3_clear v_k_Policy_clear) := goodIn_app (fun w h => (fun h => (List.mem_cons.mp h).elim (fun e => by rw [e]; exact ⟨m_k_Plan_clear_l54, good_of_word rfl⟩) (fun h => (List.mem_cons.mp h).elim (fun e => by rw [e]; exact ⟨m_k_Plan_clear_j54, good_of_word rfl⟩) (fun h => (List.mem_cons.mp h).elim (fun e => by rw [e]; exact ⟨m_k_Plan_clear_s54, good_of_word rfl⟩) (fun h => (List.mem_cons.mp h).elim (fun e => by rw [e]; exact ⟨m_k_Plan_clear_z3, good_of_word rfl⟩) (fun h => nomatch h))))) h) (fun w h => ⟨j_k_Plan_clear_v_k_Policy_clear w h, gd_v_k_Policy_clear w h⟩)
set_option maxHeartbeats 4000000 in
set_option maxRecDepth 100000 in
theorem k_Plan_clear (l : Launch) (D : va_G) (cA : Nat → ClassId) (E : hp_N) (sz : Nat) (g : hp_M) (h po : Nat) (a : Nat → Nat) (i2 i10 i12 i14 : Int32) (hh : g h = some (.inr (2, [.ref po, .ref (a 1), .int i2, .ref (a 3), .ref (a 4), .ref (a 5), .ref (a 6), .ref (a 7), .ref (a 8), .ref (a 9), .int i10, .ref (a 11), .int i12, .ref (a 13), .int i14, .ref (a 15)]))) (pfs : List Value) (hpL : pfs.length = 14) (hpo : g po = some (.inr (3, pfs))) : Met l yX2_clear v_k_Plan_clear ({ frames := 1, cells := 0, slots := 0, locals := 20 }) (hp_Pc D vwCl (hp_Tl cA) E sz g [.ref h]) (hp_Qv D vwCl (hp_Tl cA) sz g (fun u => hp_extL [po, h] g u ∧ u h = some (.inr (2, [.ref po, .ref (a 1), .int 0, .ref (a 3), .ref (a 4), .ref (a 5), .ref (a 6), .ref (a 7), .ref (a 8), .ref (a 9), .int 0, .ref (a 11), .int 0, .ref (a 13), .int 0, .ref (a 15)])))) 0 0 (hp_A g sz) := by
  refine hp_ofW (cc := cX2_clear) (maxL := 1) (ret := none) (by decide) rfl (Nat.le_of_ble_eq_true rfl) ?_
  intro pp ee ss mm bb mt cd ls cx hsz hw hl
  have hl : lv_has ls 1 [(0, .ref h)] := hl
  refine lv_aload_n cx.1 cx.2.1 dX2_clear_0 rfl (lv_at hl 0 rfl) ?_
  refine hp_get (C := RX2) (T := TX2) (N := 16) (ci := 2) cx hw i_k_Plan_clear_X2 rfl hh 0 (by decide) m_k_Plan_clear_f9 (v := .ref po) rfl dX2_clear_1 ?_
  refine hp_callVv (As := []) (rest := []) cx hw (k_Policy_clear l D cA E _ g po pfs hpL hpo) (cwV 0 cx.2.2.2.2.2.1 g_k_Plan_clear_54_v_k_Policy_clear rfl rfl rfl (by decide +kernel) ⟨Nat.le_of_ble_eq_true rfl, Nat.le_of_ble_eq_true rfl⟩) hpo rfl rfl hl.1 rfl (Nat.le_of_ble_eq_true rfl) dX2_clear_4 ⟨Nat.le_of_ble_eq_true rfl, Nat.le_of_ble_eq_true rfl⟩ (fun u1 H locs hp3 hw => ?_)
  obtain ⟨hx4, pf1, f5, pl1⟩ := hp3
  refine lv_aload_n cx.1 cx.2.1 dX2_clear_7 rfl (lv_at hl 0 rfl) ?_
  refine lv_iconst (v := 0) cx.1 cx.2.1 dX2_clear_8 (by decide) ?_
  have f6 : u1 h = some (.inr (2, [.ref po, .ref (a 1), .int i2, .ref (a 3), .ref (a 4), .ref (a 5), .ref (a 6), .ref (a 7), .ref (a 8), .ref (a 9), .int i10, .ref (a 11), .int i12, .ref (a 13), .int i14, .ref (a 15)])) := hx4 _ _ (hp_neK hh hpo (by decide)) hh
  refine hp_put (C := RX2) (T := TX2) (N := 16) (ci := 2) (fs' := [.ref po, .ref (a 1), .int 0, .ref (a 3), .ref (a 4), .ref (a 5), .ref (a 6), .ref (a 7), .ref (a 8), .ref (a 9), .int i10, .ref (a 11), .int i12, .ref (a 13), .int i14, .ref (a 15)]) cx hw i_k_Plan_clear_X2 tyX2_ok nmX2 rfl f6 2 (by decide) m_k_Plan_clear_f59 rfl  rfl rfl (Nat.le_of_ble_eq_true rfl) rfl dX2_clear_9 (fun g7 H locs eg7 hw => ?_)
  have f8 : g7 h = some (.inr (2, [.ref po, .ref (a 1), .int 0, .ref (a 3), .ref (a 4), .ref (a 5), .ref (a 6), .ref (a 7), .ref (a 8), .ref (a 9), .int i10, .ref (a 11), .int i12, .ref (a 13), .int i14, .ref (a 15)])) := (by rw [eg7]; exact hp_up_self _ _ _)
  refine lv_aload_n cx.1 cx.2.1 dX2_clear_12 rfl (lv_at hl 0 rfl) ?_
  refine lv_iconst (v := 0) cx.1 cx.2.1 dX2_clear_13 (by decide) ?_
  refine hp_put (C := RX2) (T := TX2) (N := 16) (ci := 2) (fs' := [.ref po, .ref (a 1), .int 0, .ref (a 3), .ref (a 4), .ref (a 5), .ref (a 6), .ref (a 7), .ref (a 8), .ref (a 9), .int 0, .ref (a 11), .int i12, .ref (a 13), .int i14, .ref (a 15)]) cx hw i_k_Plan_clear_X2 tyX2_ok nmX2 rfl f8 10 (by decide) m_k_Plan_clear_f63 rfl  rfl rfl (Nat.le_of_ble_eq_true rfl) rfl dX2_clear_14 (fun g9 H locs eg9 hw => ?_)
  have f10 : g9 h = some (.inr (2, [.ref po, .ref (a 1), .int 0, .ref (a 3), .ref (a 4), .ref (a 5), .ref (a 6), .ref (a 7), .ref (a 8), .ref (a 9), .int 0, .ref (a 11), .int i12, .ref (a 13), .int i14, .ref (a 15)])) := (by rw [eg9]; exact hp_up_self _ _ _)
  refine lv_aload_n cx.1 cx.2.1 dX2_clear_17 rfl (lv_at hl 0 rfl) ?_
  refine lv_iconst (v := 0) cx.1 cx.2.1 dX2_clear_18 (by decide) ?_
  refine hp_put (C := RX2) (T := TX2) (N := 16) (ci := 2) (fs' := [.ref po, .ref (a 1), .int 0, .ref (a 3), .ref (a 4), .ref (a 5), .ref (a 6), .ref (a 7), .ref (a 8), .ref (a 9), .int 0, .ref (a 11), .int 0, .ref (a 13), .int i14, .ref (a 15)]) cx hw i_k_Plan_clear_X2 tyX2_ok nmX2 rfl f10 12 (by decide) m_k_Plan_clear_f66 rfl  rfl rfl (Nat.le_of_ble_eq_true rfl) rfl dX2_clear_19 (fun g11 H locs eg11 hw => ?_)
  have f12 : g11 h = some (.inr (2, [.ref po, .ref (a 1), .int 0, .ref (a 3), .ref (a 4), .ref (a 5), .ref (a 6), .ref (a 7), .ref (a 8), .ref (a 9), .int 0, .ref (a 11), .int 0, .ref (a 13), .int i14, .ref (a 15)])) := (by rw [eg11]; exact hp_up_self _ _ _)
  refine lv_aload_n cx.1 cx.2.1 dX2_clear_22 rfl (lv_at hl 0 rfl) ?_
  refine lv_iconst (v := 0) cx.1 cx.2.1 dX2_clear_23 (by decide) ?_
  refine hp_put (C := RX2) (T := TX2) (N := 16) (ci := 2) (fs' := [.ref po, .ref (a 1), .int 0, .ref (a 3), .ref (a 4), .ref (a 5), .ref (a 6), .ref (a 7), .ref (a 8), .ref (a 9), .int 0, .ref (a 11), .int 0, .ref (a 13), .int 0, .ref (a 15)]) cx hw i_k_Plan_clear_X2 tyX2_ok nmX2 rfl f12 14 (by decide) m_k_Plan_clear_f69 rfl  rfl rfl (Nat.le_of_ble_eq_true rfl) rfl dX2_clear_24 (fun g13 H locs eg13 hw => ?_)
  have f14 : g13 h = some (.inr (2, [.ref po, .ref (a 1), .int 0, .ref (a 3), .ref (a 4), .ref (a 5), .ref (a 6), .ref (a 7), .ref (a 8), .ref (a 9), .int 0, .ref (a 11), .int 0, .ref (a 13), .int 0, .ref (a 15)])) := (by rw [eg13]; exact hp_up_self _ _ _)
  have hxt : hp_extL [po, h] g g13 := by
    intro b e hb hg
    have hb0 : b ≠ po := fun q => hb (by rw [q]; simp)
    have hb1 : b ≠ h := fun q => hb (by rw [q]; simp)
    have b_u1 := hx4 b e (hb0) hg
    have b_g7 : g7 b = some e := by rw [eg7]; exact (hp_up_ne _ _ (hb1)).trans b_u1
    have b_g9 : g9 b = some e := by rw [eg9]; exact (hp_up_ne _ _ (hb1)).trans b_g7
    have b_g11 : g11 b = some e := by rw [eg11]; exact (hp_up_ne _ _ (hb1)).trans b_g9
    have b_g13 : g13 b = some e := by rw [eg13]; exact (hp_up_ne _ _ (hb1)).trans b_g11
    exact b_g13
  exact hp_vret cx hw (⟨hxt, f14⟩) dX2_clear_27

def lk_k_readGrants0 : List Cond := [Cond.fieldLink RX4 15 "WardenHouse$Reader" "plan" "LWardenHouse$Plan;", Cond.methodLink RX4 55 yX2_clear, Cond.instanceMethod yX2_clear, Cond.selects RX2 yX2_clear yX2_clear, Cond.initialized RX2, Cond.fieldLink RX4 58 "WardenHouse$Reader" "parts" "I", Cond.fieldLink RX4 61 "WardenHouse$Reader" "scopeCount" "I", Cond.fieldLink RX4 64 "WardenHouse$Reader" "faultKind" "I", Cond.fieldLink RX4 51 "WardenHouse$Reader" "faultPlace" "I", Cond.fieldLink RX4 9 "WardenHouse$Reader" "words" "LWardenHouse$Words;", Cond.fieldLink RX4 67 "WardenHouse$Words" "kind" "I"]
def v_k_readGrants0 : List Cond := .code yX4_readGrants cX4_readGrants 2 none :: (lk_k_readGrants0 ++ (wsX40 ++ (v_k_Plan_clear ++ (wsX100 ++ []))))
theorem m_k_readGrants0_f15 : Cond.fieldLink RX4 15 "WardenHouse$Reader" "plan" "LWardenHouse$Plan;" ∈ v_k_readGrants0 := List.mem_cons_of_mem _ (List.mem_append_left _ (List.mem_of_getElem? (i := 0) rfl))
theorem m_k_readGrants0_l55 : Cond.methodLink RX4 55 yX2_clear ∈ v_k_readGrants0 := List.mem_cons_of_mem _ (List.mem_append_left _ (List.mem_of_getElem? (i := 1) rfl))
theorem m_k_readGrants0_j55 : Cond.instanceMethod yX2_clear ∈ v_k_readGrants0 := List.mem_cons_of_mem _ (List.mem_append_left _ (List.mem_of_getElem? (i := 2) rfl))
theorem m_k_readGrants0_s55 : Cond.selects RX2 yX2_clear yX2_clear ∈ v_k_readGrants0 := List.mem_cons_of_mem _ (List.mem_append_left _ (List.mem_of_getElem? (i := 3) rfl))
theorem m_k_readGrants0_z2 : Cond.initialized RX2 ∈ v_k_readGrants0 := List.mem_cons_of_mem _ (List.mem_append_left _ (List.mem_of_getElem? (i := 4) rfl))
theorem m_k_readGrants0_f58 : Cond.fieldLink RX4 58 "WardenHouse$Reader" "parts" "I" ∈ v_k_readGrants0 := List.mem_cons_of_mem _ (List.mem_append_left _ (List.mem_of_getElem? (i := 5) rfl))
theorem m_k_readGrants0_f61 : Cond.fieldLink RX4 61 "WardenHouse$Reader" "scopeCount" "I" ∈ v_k_readGrants0 := List.mem_cons_of_mem _ (List.mem_append_left _ (List.mem_of_getElem? (i := 6) rfl))
theorem m_k_readGrants0_f64 : Cond.fieldLink RX4 64 "WardenHouse$Reader" "faultKind" "I" ∈ v_k_readGrants0 := List.mem_cons_of_mem _ (List.mem_append_left _ (List.mem_of_getElem? (i := 7) rfl))
theorem m_k_readGrants0_f51 : Cond.fieldLink RX4 51 "WardenHouse$Reader" "faultPlace" "I" ∈ v_k_readGrants0 := List.mem_cons_of_mem _ (List.mem_append_left _ (List.mem_of_getElem? (i := 8) rfl))
theorem m_k_readGrants0_f9 : Cond.fieldLink RX4 9 "WardenHouse$Reader" "words" "LWardenHouse$Words;" ∈ v_k_readGrants0 := List.mem_cons_of_mem _ (List.mem_append_left _ (List.mem_of_getElem? (i := 9) rfl))
theorem m_k_readGrants0_f67 : Cond.fieldLink RX4 67 "WardenHouse$Words" "kind" "I" ∈ v_k_readGrants0 := List.mem_cons_of_mem _ (List.mem_append_left _ (List.mem_of_getElem? (i := 10) rfl))
theorem i_k_readGrants0_X4 : ∀ w ∈ wsX40, w ∈ v_k_readGrants0 := fun _ h => List.mem_cons_of_mem _ (List.mem_append_right _ (List.mem_append_left _ h))
theorem j_k_readGrants0_v_k_Plan_clear : ∀ w ∈ v_k_Plan_clear, w ∈ v_k_readGrants0 := fun _ h => List.mem_cons_of_mem _ (List.mem_append_right _ (List.mem_append_right _ (List.mem_append_left _ h)))
theorem i_k_readGrants0_X10 : ∀ w ∈ wsX100, w ∈ v_k_readGrants0 := fun _ h => List.mem_cons_of_mem _ (List.mem_append_right _ (List.mem_append_right _ (List.mem_append_right _ (List.mem_append_left _ h))))
theorem gk_k_readGrants0 : lk_k_readGrants0.all goodWord = true := by decide +kernel
theorem gd_v_k_readGrants0 : ∀ w ∈ v_k_readGrants0, gdW w := fun w h => (List.mem_cons.mp h).elim (fun e => by rw [e]; exact good_of_word rfl) (fun h => (List.mem_append.mp h).elim (fun h => good_of_word (List.all_eq_true.mp gk_k_readGrants0 w h)) (fun h => (List.mem_append.mp h).elim (gd_wsX40 w) (fun h => (List.mem_append.mp h).elim (gd_v_k_Plan_clear w) (fun h => (List.mem_append.mp h).elim (gd_wsX100 w) (fun h => nomatch h)))))
theorem g_k_readGrants0_55_v_k_Plan_clear : GoodIn v_k_readGrants0 (wsV RX4 55 RX2 yX2_clear v_k_Plan_clear) := goodIn_app (fun w h => (fun h => (List.mem_cons.mp h).elim (fun e => by rw [e]; exact ⟨m_k_readGrants0_l55, good_of_word rfl⟩) (fun h => (List.mem_cons.mp h).elim (fun e => by rw [e]; exact ⟨m_k_readGrants0_j55, good_of_word rfl⟩) (fun h => (List.mem_cons.mp h).elim (fun e => by rw [e]; exact ⟨m_k_readGrants0_s55, good_of_word rfl⟩) (fun h => (List.mem_cons.mp h).elim (fun e => by rw [e]; exact ⟨m_k_readGrants0_z2, good_of_word rfl⟩) (fun h => nomatch h))))) h) (fun w h => ⟨j_k_readGrants0_v_k_Plan_clear w h, gd_v_k_Plan_clear w h⟩)
set_option maxHeartbeats 4000000 in
set_option maxRecDepth 100000 in
theorem k_readGrants0 (l : Launch) (D : va_G) (cA : Nat → ClassId) (E : hp_N) (sz : Nat) (g : hp_M) (h pn po : Nat) (ra : Nat → Nat) (m0 m1 : Nat) (j6 j9 j10 j11 j12 : Int32) (wd k0 r1 r2 tx : Nat) (z mo pl nx kd wt : Int32) (vv : Int64) (hwd : g wd = some (.inr (10, [.ref k0, .ref r1, .ref r2, .ref tx, .int z, .int mo, .int pl, .int nx, .int kd, .int wt, .long vv]))) (hh : g h = some (.inr (4, [.ref wd, .ref pn, .ref po, .ref (ra 3), .ref (ra 4), .ref (ra 5), .int j6, .ref m0, .ref m1, .int j9, .int j10, .int j11, .int j12]))) (a : Nat → Nat) (i2 i10 i12 i14 : Int32) (hpn : g pn = some (.inr (2, [.ref po, .ref (a 1), .int i2, .ref (a 3), .ref (a 4), .ref (a 5), .ref (a 6), .ref (a 7), .ref (a 8), .ref (a 9), .int i10, .ref (a 11), .int i12, .ref (a 13), .int i14, .ref (a 15)]))) (pfs : List Value) (hpL : pfs.length = 14) (hpo : g po = some (.inr (3, pfs))) (hk : ¬ kd = 210) : Met l yX4_readGrants v_k_readGrants0 ({ frames := 2, cells := 0, slots := 0, locals := 50 }) (hp_Pc D vwCl (hp_Tl cA) E sz g [.ref h]) (hp_Qv D vwCl (hp_Tl cA) sz g (fun u => hp_extL [po, pn, h] g u ∧ u h = some (.inr (4, [.ref wd, .ref pn, .ref po, .ref (ra 3), .ref (ra 4), .ref (ra 5), .int 0, .ref m0, .ref m1, .int j9, .int 0, .int 0, .int (-1)])) ∧ u pn = some (.inr (2, [.ref po, .ref (a 1), .int 0, .ref (a 3), .ref (a 4), .ref (a 5), .ref (a 6), .ref (a 7), .ref (a 8), .ref (a 9), .int 0, .ref (a 11), .int 0, .ref (a 13), .int 0, .ref (a 15)])))) 0 0 (hp_A g sz) := by
  refine hp_ofW (cc := cX4_readGrants) (maxL := 2) (ret := none) (by decide) rfl (Nat.le_of_ble_eq_true rfl) ?_
  intro pp ee ss mm bb mt cd ls cx hsz hw hl
  have hl : lv_has ls 2 [(0, .ref h)] := hl
  refine lv_aload_n cx.1 cx.2.1 dX4_readGrants_0 rfl (lv_at hl 0 rfl) ?_
  refine hp_get (C := RX4) (T := TX4) (N := 13) (ci := 4) cx hw i_k_readGrants0_X4 rfl hh 1 (by decide) m_k_readGrants0_f15 (v := .ref pn) rfl dX4_readGrants_1 ?_
  refine hp_callVv (As := []) (rest := []) cx hw (k_Plan_clear l D cA E _ g pn po a i2 i10 i12 i14 hpn pfs hpL hpo) (cwV 0 cx.2.2.2.2.2.1 g_k_readGrants0_55_v_k_Plan_clear rfl rfl rfl (by decide +kernel) ⟨Nat.le_of_ble_eq_true rfl, Nat.le_of_ble_eq_true rfl⟩) hpn rfl rfl hl.1 rfl (Nat.le_of_ble_eq_true rfl) dX4_readGrants_4 ⟨Nat.le_of_ble_eq_true rfl, Nat.le_of_ble_eq_true rfl⟩ (fun u1 H locs hp3 hw => ?_)
  obtain ⟨hx4, f5⟩ := hp3
  refine lv_aload_n cx.1 cx.2.1 dX4_readGrants_7 rfl (lv_at hl 0 rfl) ?_
  refine lv_iconst (v := 0) cx.1 cx.2.1 dX4_readGrants_8 (by decide) ?_
  have f6 : u1 h = some (.inr (4, [.ref wd, .ref pn, .ref po, .ref (ra 3), .ref (ra 4), .ref (ra 5), .int j6, .ref m0, .ref m1, .int j9, .int j10, .int j11, .int j12])) := hx4 _ _ (nm_2 (hp_neK hh hpo (by decide)) (hp_neK hh hpn (by decide))) hh
  refine hp_put (C := RX4) (T := TX4) (N := 13) (ci := 4) (fs' := [.ref wd, .ref pn, .ref po, .ref (ra 3), .ref (ra 4), .ref (ra 5), .int j6, .ref m0, .ref m1, .int j9, .int 0, .int j11, .int j12]) cx hw i_k_readGrants0_X4 tyX4_ok nmX4 rfl f6 10 (by decide) m_k_readGrants0_f58 rfl  rfl rfl (Nat.le_of_ble_eq_true rfl) rfl dX4_readGrants_9 (fun g7 H locs eg7 hw => ?_)
  have f8 : g7 h = some (.inr (4, [.ref wd, .ref pn, .ref po, .ref (ra 3), .ref (ra 4), .ref (ra 5), .int j6, .ref m0, .ref m1, .int j9, .int 0, .int j11, .int j12])) := (by rw [eg7]; exact hp_up_self _ _ _)
  refine lv_aload_n cx.1 cx.2.1 dX4_readGrants_12 rfl (lv_at hl 0 rfl) ?_
  refine lv_iconst (v := 0) cx.1 cx.2.1 dX4_readGrants_13 (by decide) ?_
  refine hp_put (C := RX4) (T := TX4) (N := 13) (ci := 4) (fs' := [.ref wd, .ref pn, .ref po, .ref (ra 3), .ref (ra 4), .ref (ra 5), .int 0, .ref m0, .ref m1, .int j9, .int 0, .int j11, .int j12]) cx hw i_k_readGrants0_X4 tyX4_ok nmX4 rfl f8 6 (by decide) m_k_readGrants0_f61 rfl  rfl rfl (Nat.le_of_ble_eq_true rfl) rfl dX4_readGrants_14 (fun g9 H locs eg9 hw => ?_)
  have f10 : g9 h = some (.inr (4, [.ref wd, .ref pn, .ref po, .ref (ra 3), .ref (ra 4), .ref (ra 5), .int 0, .ref m0, .ref m1, .int j9, .int 0, .int j11, .int j12])) := (by rw [eg9]; exact hp_up_self _ _ _)
  refine lv_aload_n cx.1 cx.2.1 dX4_readGrants_17 rfl (lv_at hl 0 rfl) ?_
  refine lv_iconst (v := 0) cx.1 cx.2.1 dX4_readGrants_18 (by decide) ?_
  refine hp_put (C := RX4) (T := TX4) (N := 13) (ci := 4) (fs' := [.ref wd, .ref pn, .ref po, .ref (ra 3), .ref (ra 4), .ref (ra 5), .int 0, .ref m0, .ref m1, .int j9, .int 0, .int 0, .int j12]) cx hw i_k_readGrants0_X4 tyX4_ok nmX4 rfl f10 11 (by decide) m_k_readGrants0_f64 rfl  rfl rfl (Nat.le_of_ble_eq_true rfl) rfl dX4_readGrants_19 (fun g11 H locs eg11 hw => ?_)
  have f12 : g11 h = some (.inr (4, [.ref wd, .ref pn, .ref po, .ref (ra 3), .ref (ra 4), .ref (ra 5), .int 0, .ref m0, .ref m1, .int j9, .int 0, .int 0, .int j12])) := (by rw [eg11]; exact hp_up_self _ _ _)
  refine lv_aload_n cx.1 cx.2.1 dX4_readGrants_22 rfl (lv_at hl 0 rfl) ?_
  refine lv_iconst (v := (-1)) cx.1 cx.2.1 dX4_readGrants_23 (by decide) ?_
  refine hp_put (C := RX4) (T := TX4) (N := 13) (ci := 4) (fs' := [.ref wd, .ref pn, .ref po, .ref (ra 3), .ref (ra 4), .ref (ra 5), .int 0, .ref m0, .ref m1, .int j9, .int 0, .int 0, .int (-1)]) cx hw i_k_readGrants0_X4 tyX4_ok nmX4 rfl f12 12 (by decide) m_k_readGrants0_f51 rfl  rfl rfl (Nat.le_of_ble_eq_true rfl) rfl dX4_readGrants_24 (fun g13 H locs eg13 hw => ?_)
  have f14 : g13 h = some (.inr (4, [.ref wd, .ref pn, .ref po, .ref (ra 3), .ref (ra 4), .ref (ra 5), .int 0, .ref m0, .ref m1, .int j9, .int 0, .int 0, .int (-1)])) := (by rw [eg13]; exact hp_up_self _ _ _)
  refine lv_iconst (v := 0) cx.1 cx.2.1 dX4_readGrants_27 (by decide) ?_
  refine lv_istore_n (lv' := [(1, .int 0), (0, .ref h)]) cx.1 cx.2.1 dX4_readGrants_28 rfl hl (by decide) rfl (fun ls hl => ?_)
  refine lv_iload_n cx.1 cx.2.1 dX4_readGrants_29 rfl (lv_at hl 0 rfl) ?_
  refine lv_bipush (v := 8) cx.1 cx.2.1 dX4_readGrants_30 (by decide) ?_
  refine lv_icmp_gt (tgt := 73) cx.1 cx.2.1 dX4_readGrants_32 (by decide) (fun c32_15 => ?_) (fun c32_15 => ?_)
  · exact absurd c32_15 (by decide)
  refine lv_aload_n cx.1 cx.2.1 dX4_readGrants_35 rfl (lv_at hl 1 rfl) ?_
  refine hp_get (C := RX4) (T := TX4) (N := 13) (ci := 4) cx hw i_k_readGrants0_X4 rfl f14 0 (by decide) m_k_readGrants0_f9 (v := .ref wd) rfl dX4_readGrants_36 ?_
  have f16 : u1 wd = some (.inr (10, [.ref k0, .ref r1, .ref r2, .ref tx, .int z, .int mo, .int pl, .int nx, .int kd, .int wt, .long vv])) := hx4 _ _ (nm_2 (hp_neK hwd hpo (by decide)) (hp_neK hwd hpn (by decide))) hwd
  have f17 : g7 wd = some (.inr (10, [.ref k0, .ref r1, .ref r2, .ref tx, .int z, .int mo, .int pl, .int nx, .int kd, .int wt, .long vv])) := (by rw [eg7]; exact (hp_up_ne _ _ (hp_neK f16 f6 (by decide))).trans f16)
  have f18 : g9 wd = some (.inr (10, [.ref k0, .ref r1, .ref r2, .ref tx, .int z, .int mo, .int pl, .int nx, .int kd, .int wt, .long vv])) := (by rw [eg9]; exact (hp_up_ne _ _ (hp_neK f17 f8 (by decide))).trans f17)
  have f19 : g11 wd = some (.inr (10, [.ref k0, .ref r1, .ref r2, .ref tx, .int z, .int mo, .int pl, .int nx, .int kd, .int wt, .long vv])) := (by rw [eg11]; exact (hp_up_ne _ _ (hp_neK f18 f10 (by decide))).trans f18)
  have f20 : g13 wd = some (.inr (10, [.ref k0, .ref r1, .ref r2, .ref tx, .int z, .int mo, .int pl, .int nx, .int kd, .int wt, .long vv])) := (by rw [eg13]; exact (hp_up_ne _ _ (hp_neK f19 f12 (by decide))).trans f19)
  refine hp_get (C := RX10) (T := TX10) (N := 11) (ci := 10) cx hw i_k_readGrants0_X10 rfl f20 8 (by decide) m_k_readGrants0_f67 (v := .int kd) rfl dX4_readGrants_39 ?_
  refine lv_sipush (v := 210) cx.1 cx.2.1 dX4_readGrants_42 (by decide) ?_
  refine lv_icmp_ne (tgt := 73) cx.1 cx.2.1 dX4_readGrants_45 (by decide) (fun c45_21 => ?_) (fun c45_21 => ?_)
  rotate_left
  · exact absurd c45_21 (hk)
  have hxt : hp_extL [po, pn, h] g g13 := by
    intro b e hb hg
    have hb0 : b ≠ po := fun q => hb (by rw [q]; simp)
    have hb1 : b ≠ pn := fun q => hb (by rw [q]; simp)
    have hb2 : b ≠ h := fun q => hb (by rw [q]; simp)
    have b_u1 := hx4 b e (nm_2 (hb0) (hb1)) hg
    have b_g7 : g7 b = some e := by rw [eg7]; exact (hp_up_ne _ _ (hb2)).trans b_u1
    have b_g9 : g9 b = some e := by rw [eg9]; exact (hp_up_ne _ _ (hb2)).trans b_g7
    have b_g11 : g11 b = some e := by rw [eg11]; exact (hp_up_ne _ _ (hb2)).trans b_g9
    have b_g13 : g13 b = some e := by rw [eg13]; exact (hp_up_ne _ _ (hb2)).trans b_g11
    exact b_g13
  have f22 : g7 pn = some (.inr (2, [.ref po, .ref (a 1), .int 0, .ref (a 3), .ref (a 4), .ref (a 5), .ref (a 6), .ref (a 7), .ref (a 8), .ref (a 9), .int 0, .ref (a 11), .int 0, .ref (a 13), .int 0, .ref (a 15)])) := (by rw [eg7]; exact (hp_up_ne _ _ (hp_neK f5 f6 (by decide))).trans f5)
  have f23 : g9 pn = some (.inr (2, [.ref po, .ref (a 1), .int 0, .ref (a 3), .ref (a 4), .ref (a 5), .ref (a 6), .ref (a 7), .ref (a 8), .ref (a 9), .int 0, .ref (a 11), .int 0, .ref (a 13), .int 0, .ref (a 15)])) := (by rw [eg9]; exact (hp_up_ne _ _ (hp_neK f22 f8 (by decide))).trans f22)
  have f24 : g11 pn = some (.inr (2, [.ref po, .ref (a 1), .int 0, .ref (a 3), .ref (a 4), .ref (a 5), .ref (a 6), .ref (a 7), .ref (a 8), .ref (a 9), .int 0, .ref (a 11), .int 0, .ref (a 13), .int 0, .ref (a 15)])) := (by rw [eg11]; exact (hp_up_ne _ _ (hp_neK f23 f10 (by decide))).trans f23)
  have f25 : g13 pn = some (.inr (2, [.ref po, .ref (a 1), .int 0, .ref (a 3), .ref (a 4), .ref (a 5), .ref (a 6), .ref (a 7), .ref (a 8), .ref (a 9), .int 0, .ref (a 11), .int 0, .ref (a 13), .int 0, .ref (a 15)])) := (by rw [eg13]; exact (hp_up_ne _ _ (hp_neK f24 f12 (by decide))).trans f24)
  exact hp_vret cx hw (⟨hxt, f14, f25⟩) dX4_readGrants_73

def lk_f_asks : List Cond := [Cond.fieldLink RX11 73 "WardenHouse" "fed" "I", Cond.fieldLink RX11 16 "WardenHouse" "words" "LWardenHouse$Words;", Cond.fieldLink RX11 9 "WardenHouse" "tape" "[B", Cond.methodLink RX11 89 yX10_begin, Cond.instanceMethod yX10_begin, Cond.selects RX10 yX10_begin yX10_begin, Cond.initialized RX10, Cond.fieldLink RX11 162 "WardenHouse$Words" "kind" "I"]
def v_f_asks : List Cond := .code yX11_asks cX11_asks 4 (some .boolean) :: (lk_f_asks ++ (wsX110 ++ (v_w_begin0 ++ (wsX100 ++ []))))
theorem m_f_asks_f73 : Cond.fieldLink RX11 73 "WardenHouse" "fed" "I" ∈ v_f_asks := List.mem_cons_of_mem _ (List.mem_append_left _ (List.mem_of_getElem? (i := 0) rfl))
theorem m_f_asks_f16 : Cond.fieldLink RX11 16 "WardenHouse" "words" "LWardenHouse$Words;" ∈ v_f_asks := List.mem_cons_of_mem _ (List.mem_append_left _ (List.mem_of_getElem? (i := 1) rfl))
theorem m_f_asks_f9 : Cond.fieldLink RX11 9 "WardenHouse" "tape" "[B" ∈ v_f_asks := List.mem_cons_of_mem _ (List.mem_append_left _ (List.mem_of_getElem? (i := 2) rfl))
theorem m_f_asks_l89 : Cond.methodLink RX11 89 yX10_begin ∈ v_f_asks := List.mem_cons_of_mem _ (List.mem_append_left _ (List.mem_of_getElem? (i := 3) rfl))
theorem m_f_asks_j89 : Cond.instanceMethod yX10_begin ∈ v_f_asks := List.mem_cons_of_mem _ (List.mem_append_left _ (List.mem_of_getElem? (i := 4) rfl))
theorem m_f_asks_s89 : Cond.selects RX10 yX10_begin yX10_begin ∈ v_f_asks := List.mem_cons_of_mem _ (List.mem_append_left _ (List.mem_of_getElem? (i := 5) rfl))
theorem m_f_asks_z10 : Cond.initialized RX10 ∈ v_f_asks := List.mem_cons_of_mem _ (List.mem_append_left _ (List.mem_of_getElem? (i := 6) rfl))
theorem m_f_asks_f162 : Cond.fieldLink RX11 162 "WardenHouse$Words" "kind" "I" ∈ v_f_asks := List.mem_cons_of_mem _ (List.mem_append_left _ (List.mem_of_getElem? (i := 7) rfl))
theorem i_f_asks_X11 : ∀ w ∈ wsX110, w ∈ v_f_asks := fun _ h => List.mem_cons_of_mem _ (List.mem_append_right _ (List.mem_append_left _ h))
theorem j_f_asks_v_w_begin0 : ∀ w ∈ v_w_begin0, w ∈ v_f_asks := fun _ h => List.mem_cons_of_mem _ (List.mem_append_right _ (List.mem_append_right _ (List.mem_append_left _ h)))
theorem i_f_asks_X10 : ∀ w ∈ wsX100, w ∈ v_f_asks := fun _ h => List.mem_cons_of_mem _ (List.mem_append_right _ (List.mem_append_right _ (List.mem_append_right _ (List.mem_append_left _ h))))
theorem gk_f_asks : lk_f_asks.all goodWord = true := by decide +kernel
theorem gd_v_f_asks : ∀ w ∈ v_f_asks, gdW w := fun w h => (List.mem_cons.mp h).elim (fun e => by rw [e]; exact good_of_word rfl) (fun h => (List.mem_append.mp h).elim (fun h => good_of_word (List.all_eq_true.mp gk_f_asks w h)) (fun h => (List.mem_append.mp h).elim (gd_wsX110 w) (fun h => (List.mem_append.mp h).elim (gd_v_w_begin0 w) (fun h => (List.mem_append.mp h).elim (gd_wsX100 w) (fun h => nomatch h)))))
theorem g_f_asks_89_v_w_begin0 : GoodIn v_f_asks (wsV RX11 89 RX10 yX10_begin v_w_begin0) := goodIn_app (fun w h => (fun h => (List.mem_cons.mp h).elim (fun e => by rw [e]; exact ⟨m_f_asks_l89, good_of_word rfl⟩) (fun h => (List.mem_cons.mp h).elim (fun e => by rw [e]; exact ⟨m_f_asks_j89, good_of_word rfl⟩) (fun h => (List.mem_cons.mp h).elim (fun e => by rw [e]; exact ⟨m_f_asks_s89, good_of_word rfl⟩) (fun h => (List.mem_cons.mp h).elim (fun e => by rw [e]; exact ⟨m_f_asks_z10, good_of_word rfl⟩) (fun h => nomatch h))))) h) (fun w h => ⟨j_f_asks_v_w_begin0 w h, gd_v_w_begin0 w h⟩)
set_option maxHeartbeats 4000000 in
set_option maxRecDepth 100000 in
theorem f_asks (l : Launch) (D : va_G) (cA : Nat → ClassId) (E : hp_N) (sz : Nat) (g : hp_M) (h : Nat) (hf : fr_House cA g h)  : Met l yX11_asks v_f_asks ({ frames := 4, cells := 0, slots := 0, locals := 110 }) (hp_Pc D vwCl (hp_Tl cA) E sz g [.ref h]) (hp_Qi D vwCl (hp_Tl cA) sz g (fun r _ => r = 0)) 0 0 (hp_A g sz) := by
  refine hp_ofW (cc := cX11_asks) (maxL := 4) (ret := (some .boolean)) (by decide) rfl (Nat.le_of_ble_eq_true rfl) ?_
  intro pp ee ss mm bb mt cd ls cx hsz hw hl
  have hl : lv_has ls 4 [(0, .ref h)] := hl
  obtain ⟨a, hh, ht, wa, pa, pl, ra, sa, ma, m0, hwd, hf1, hf11, hf2, hne, hpo, hpl, hre, hsu, hma⟩ := hf
  refine lv_aload_n cx.1 cx.2.1 dX11_asks_0 rfl (lv_at hl 0 rfl) ?_
  refine hp_get (C := RX11) (T := TX11) (N := 12) (ci := 11) cx hw i_f_asks_X11 rfl hh 1 (by decide) m_f_asks_f73 (v := .int 0) rfl dX11_asks_1 ?_
  refine lv_istore_n (lv' := [(1, .int 0), (0, .ref h)]) cx.1 cx.2.1 dX11_asks_4 rfl hl (by decide) rfl (fun ls hl => ?_)
  refine lv_aload_n cx.1 cx.2.1 dX11_asks_5 rfl (lv_at hl 1 rfl) ?_
  refine lv_iconst (v := 0) cx.1 cx.2.1 dX11_asks_6 (by decide) ?_
  refine hp_put (C := RX11) (T := TX11) (N := 12) (ci := 11) (fs' := [.ref (a 0), .int 0, .ref (a 2), .ref (a 3), .ref (a 4), .ref (a 5), .ref (a 6), .ref (a 7), .ref (a 8), .ref (a 9), .int 0, .int 0]) cx hw i_f_asks_X11 tyX11_ok nmX11 rfl hh 1 (by decide) m_f_asks_f73 rfl  rfl rfl (Nat.le_of_ble_eq_true rfl) rfl dX11_asks_7 (fun g1 H locs eg1 hw => ?_)
  have f2 : g1 h = some (.inr (11, [.ref (a 0), .int 0, .ref (a 2), .ref (a 3), .ref (a 4), .ref (a 5), .ref (a 6), .ref (a 7), .ref (a 8), .ref (a 9), .int 0, .int 0])) := (by rw [eg1]; exact hp_up_self _ _ _)
  refine lv_aload_n cx.1 cx.2.1 dX11_asks_10 rfl (lv_at hl 1 rfl) ?_
  refine hp_get (C := RX11) (T := TX11) (N := 12) (ci := 11) cx hw i_f_asks_X11 rfl f2 2 (by decide) m_f_asks_f16 (v := .ref (a 2)) rfl dX11_asks_11 ?_
  refine lv_aload_n cx.1 cx.2.1 dX11_asks_14 rfl (lv_at hl 1 rfl) ?_
  refine hp_get (C := RX11) (T := TX11) (N := 12) (ci := 11) cx hw i_f_asks_X11 rfl f2 0 (by decide) m_f_asks_f9 (v := .ref (a 0)) rfl dX11_asks_15 ?_
  refine lv_iload_n cx.1 cx.2.1 dX11_asks_18 rfl (lv_at hl 0 rfl) ?_
  refine lv_iconst (v := 5) cx.1 cx.2.1 dX11_asks_19 (by decide) ?_
  have f3 : g1 (a 2) = some (.inr (10, [.ref (wa 0), .ref (wa 1), .ref (wa 2), .ref (wa 3), .int 0, .int 0, .int 0, .int 0, .int 0, .int 0, .long 0])) := (by rw [eg1]; exact (hp_up_ne _ _ (hp_neK hwd hh (by decide))).trans hwd)
  have f4 : g1 (wa 1) = some (.inr (6, [.ref (wa 11), .int 0])) := (by rw [eg1]; exact (hp_up_ne _ _ (hp_neK hf1 hh (by decide))).trans hf1)
  have f5 : g1 (wa 11) = some (.inl (cA 2, 192, .inr (.inl (fun _ => 0)))) := (by rw [eg1]; exact (hp_up_ne _ _ (hp_neAO hf11 hh)).trans hf11)
  have f6 : g1 (wa 2) = some (.inr (6, [.ref (wa 12), .int 0])) := (by rw [eg1]; exact (hp_up_ne _ _ (hp_neK hf2 hh (by decide))).trans hf2)
  refine hp_callVv (As := [.ref (a 0), .int 0, .int 5]) (rest := []) cx hw (w_begin0 l D cA E _ g1 (a 2) (wa 0) (wa 1) (wa 2) (wa 3) 0 0 0 0 0 0 0 f3 (wa 11) (fun _ => 0) f4 f5 (wa 12) f6 hne (a 0) 5) (cwV 3 cx.2.2.2.2.2.1 g_f_asks_89_v_w_begin0 rfl rfl rfl (by decide +kernel) ⟨Nat.le_of_ble_eq_true rfl, Nat.le_of_ble_eq_true rfl⟩) f3 rfl rfl hl.1 rfl (Nat.le_of_ble_eq_true rfl) dX11_asks_20 ⟨Nat.le_of_ble_eq_true rfl, Nat.le_of_ble_eq_true rfl⟩ (fun u7 H locs hp9 hw => ?_)
  obtain ⟨hx10, f11⟩ := hp9
  refine lv_aload_n cx.1 cx.2.1 dX11_asks_23 rfl (lv_at hl 1 rfl) ?_
  have f12 : u7 h = some (.inr (11, [.ref (a 0), .int 0, .ref (a 2), .ref (a 3), .ref (a 4), .ref (a 5), .ref (a 6), .ref (a 7), .ref (a 8), .ref (a 9), .int 0, .int 0])) := hx10 _ _ (nm_4 (hp_neK f2 f3 (by decide)) (hp_neOA f2 f5) (hp_neK f2 f4 (by decide)) (hp_neK f2 f6 (by decide))) f2
  refine hp_get (C := RX11) (T := TX11) (N := 12) (ci := 11) cx hw i_f_asks_X11 rfl f12 2 (by decide) m_f_asks_f16 (v := .ref (a 2)) rfl dX11_asks_24 ?_
  refine hp_get (C := RX10) (T := TX10) (N := 11) (ci := 10) cx hw i_f_asks_X10 rfl f11 8 (by decide) m_f_asks_f162 (v := .int 0) rfl dX11_asks_27 ?_
  refine lv_iconst (v := 2) cx.1 cx.2.1 dX11_asks_30 (by decide) ?_
  refine lv_icmp_eq (tgt := 36) cx.1 cx.2.1 dX11_asks_31 (by decide) (fun c31_13 => ?_) (fun c31_13 => ?_)
  · exact absurd c31_13 (by decide)
  refine lv_iconst (v := 0) cx.1 cx.2.1 dX11_asks_34 (by decide) ?_
  exact hp_zret cx hw (rfl) (by decide) dX11_asks_35
