set_option maxRecDepth 20000 in
theorem md0_len (r : Nat → Nat) : (md0 r).length = 137 := rfl

def lk_f_Mfault : List Cond := [Cond.fieldLink RX12 268 "WardenHouseModel" "thrown" "I", Cond.fieldLink RX12 16 "WardenHouseModel" "faultPlace" "I", Cond.fieldLink RX12 289 "WardenHouseModel" "fault" "I"]
def v_f_Mfault : List Cond := .code yX12_fault cX12_fault 2 (some .int) :: (lk_f_Mfault ++ (wsX120 ++ []))
theorem m_f_Mfault_f268 : Cond.fieldLink RX12 268 "WardenHouseModel" "thrown" "I" ∈ v_f_Mfault := List.mem_cons_of_mem _ (List.mem_append_left _ (List.mem_of_getElem? (i := 0) rfl))
theorem m_f_Mfault_f16 : Cond.fieldLink RX12 16 "WardenHouseModel" "faultPlace" "I" ∈ v_f_Mfault := List.mem_cons_of_mem _ (List.mem_append_left _ (List.mem_of_getElem? (i := 1) rfl))
theorem m_f_Mfault_f289 : Cond.fieldLink RX12 289 "WardenHouseModel" "fault" "I" ∈ v_f_Mfault := List.mem_cons_of_mem _ (List.mem_append_left _ (List.mem_of_getElem? (i := 2) rfl))
theorem i_f_Mfault_X12 : ∀ w ∈ wsX120, w ∈ v_f_Mfault := fun _ h => List.mem_cons_of_mem _ (List.mem_append_right _ (List.mem_append_left _ h))
theorem gk_f_Mfault : lk_f_Mfault.all goodWord = true := by decide +kernel
theorem gd_v_f_Mfault : ∀ w ∈ v_f_Mfault, gdW w := fun w h => (List.mem_cons.mp h).elim (fun e => by rw [e]; exact good_of_word rfl) (fun h => (List.mem_append.mp h).elim (fun h => good_of_word (List.all_eq_true.mp gk_f_Mfault w h)) (fun h => (List.mem_append.mp h).elim (gd_wsX120 w) (fun h => nomatch h)))
set_option maxHeartbeats 4000000 in
set_option maxRecDepth 100000 in
theorem f_Mfault (l : Launch) (D : va_G) (cA : Nat → ClassId) (E : hp_N) (sz : Nat) (g : hp_M) (h : Nat) (hf : fr_Model cA g h) (x : Int32) : Met l yX12_fault v_f_Mfault ({ frames := 0, cells := 0, slots := 0, locals := 0 }) (hp_Pc D vwCl (hp_Tl cA) E sz g [.ref h, .int x]) (hp_Qi D vwCl (hp_Tl cA) sz g (fun r _ => r = if x = 0 then 0 else -1)) 0 0 (hp_A g sz) := by
  refine hp_ofW (cc := cX12_fault) (maxL := 2) (ret := (some .int)) (by decide) rfl (Nat.le_of_ble_eq_true rfl) ?_
  intro pp ee ss mm bb mt cd ls cx hsz hw hl
  have hl : lv_has ls 2 [(0, .ref h), (1, .int x)] := hl
  obtain ⟨r, hh, ht, hx⟩ := hf
  refine lv_aload_n cx.1 cx.2.1 dX12_fault_0 rfl (lv_at hl 0 rfl) ?_
  refine lv_iconst (v := 0) cx.1 cx.2.1 dX12_fault_1 (by decide) ?_
  obtain ⟨F2, eF2⟩ : ∃ F1, F1 = (md0 r).set 0 (.int 0) := ⟨_, rfl⟩
  have lF2 : F2.length = 137 := by rw [eF2, List.length_set]; exact (md0_len r)
  have vF2 : F2[0]? = some (.int 0) := by rw [eF2]; exact fl_self (by rw [(md0_len r)]; decide)
  refine hp_put (C := RX12) (T := TX12) (N := 137) (ci := 12) (fs' := F2) cx hw i_f_Mfault_X12 tyX12_ok nmX12 rfl hh 0 (by decide) m_f_Mfault_f268 rfl  rfl rfl (by rw [(md0_len r)]; decide) eF2.symm dX12_fault_2 (fun g1 H locs eg1 hw => ?_)
  have f3 : g1 h = some (.inr (12, F2)) := (by rw [eg1]; exact hp_up_self _ _ _)
  refine lv_iload_n cx.1 cx.2.1 dX12_fault_5 rfl (lv_at hl 1 rfl) ?_
  refine lv_if_ne (tgt := 16) cx.1 cx.2.1 dX12_fault_6 (by decide) (fun c6_4 => ?_) (fun c6_4 => ?_)
  · skip
    refine lv_iload_n cx.1 cx.2.1 dX12_fault_16 rfl (lv_at hl 1 rfl) ?_
    refine lv_iconst (v := 1) cx.1 cx.2.1 dX12_fault_17 (by decide) ?_
    refine lv_icmp_ne (tgt := 28) cx.1 cx.2.1 dX12_fault_18 (by decide) (fun c18_5 => ?_) (fun c18_5 => ?_)
    · skip
      refine lv_iconst (v := (-1)) cx.1 cx.2.1 dX12_fault_28 (by decide) ?_
      exact hp_iret cx hw (by rw [if_neg c6_4]) dX12_fault_29
    · skip
      refine lv_aload_n cx.1 cx.2.1 dX12_fault_21 rfl (lv_at hl 0 rfl) ?_
      have v6 : F2[7]? = some (.int (-1)) := by rw [eF2]; exact (fl_ne (by decide)).trans (rfl)
      refine hp_get (C := RX12) (T := TX12) (N := 137) (ci := 12) cx hw i_f_Mfault_X12 rfl f3 7 (by decide) m_f_Mfault_f16 (v := .int (-1)) v6 dX12_fault_22 ?_
      refine lv_goto (tgt := 29) cx.1 cx.2.1 dX12_fault_25 (by decide) ?_
      exact hp_iret cx hw (by rw [if_neg c6_4]) dX12_fault_29
  · skip
    refine lv_aload_n cx.1 cx.2.1 dX12_fault_9 rfl (lv_at hl 0 rfl) ?_
    have v7 : F2[6]? = some (.int 0) := by rw [eF2]; exact (fl_ne (by decide)).trans (rfl)
    refine hp_get (C := RX12) (T := TX12) (N := 137) (ci := 12) cx hw i_f_Mfault_X12 rfl f3 6 (by decide) m_f_Mfault_f289 (v := .int 0) v7 dX12_fault_10 ?_
    refine lv_goto (tgt := 29) cx.1 cx.2.1 dX12_fault_13 (by decide) ?_
    exact hp_iret cx hw (by rw [if_pos c6_4]) dX12_fault_29

def lk_f_Mcount : List Cond := [Cond.fieldLink RX12 268 "WardenHouseModel" "thrown" "I", Cond.constantLong RX12 707 (8), Cond.methodLink RX12 274 yX12_in, Cond.static yX12_in, Cond.initialized RX12, Cond.fieldLink RX12 428 "WardenHouseModel" "hasProgram" "Z", Cond.fieldLink RX12 271 "WardenHouseModel" "taped" "I"]
def v_f_Mcount : List Cond := .code yX12_count cX12_count 4 (some .int) :: (lk_f_Mcount ++ (wsX120 ++ (v_k_in ++ [])))
theorem m_f_Mcount_f268 : Cond.fieldLink RX12 268 "WardenHouseModel" "thrown" "I" ∈ v_f_Mcount := List.mem_cons_of_mem _ (List.mem_append_left _ (List.mem_of_getElem? (i := 0) rfl))
theorem m_f_Mcount_c707 : Cond.constantLong RX12 707 (8) ∈ v_f_Mcount := List.mem_cons_of_mem _ (List.mem_append_left _ (List.mem_of_getElem? (i := 1) rfl))
theorem m_f_Mcount_l274 : Cond.methodLink RX12 274 yX12_in ∈ v_f_Mcount := List.mem_cons_of_mem _ (List.mem_append_left _ (List.mem_of_getElem? (i := 2) rfl))
theorem m_f_Mcount_j274 : Cond.static yX12_in ∈ v_f_Mcount := List.mem_cons_of_mem _ (List.mem_append_left _ (List.mem_of_getElem? (i := 3) rfl))
theorem m_f_Mcount_z12 : Cond.initialized RX12 ∈ v_f_Mcount := List.mem_cons_of_mem _ (List.mem_append_left _ (List.mem_of_getElem? (i := 4) rfl))
theorem m_f_Mcount_f428 : Cond.fieldLink RX12 428 "WardenHouseModel" "hasProgram" "Z" ∈ v_f_Mcount := List.mem_cons_of_mem _ (List.mem_append_left _ (List.mem_of_getElem? (i := 5) rfl))
theorem m_f_Mcount_f271 : Cond.fieldLink RX12 271 "WardenHouseModel" "taped" "I" ∈ v_f_Mcount := List.mem_cons_of_mem _ (List.mem_append_left _ (List.mem_of_getElem? (i := 6) rfl))
theorem i_f_Mcount_X12 : ∀ w ∈ wsX120, w ∈ v_f_Mcount := fun _ h => List.mem_cons_of_mem _ (List.mem_append_right _ (List.mem_append_left _ h))
theorem j_f_Mcount_v_k_in : ∀ w ∈ v_k_in, w ∈ v_f_Mcount := fun _ h => List.mem_cons_of_mem _ (List.mem_append_right _ (List.mem_append_right _ (List.mem_append_left _ h)))
theorem gk_f_Mcount : lk_f_Mcount.all goodWord = true := by decide +kernel
theorem gd_v_f_Mcount : ∀ w ∈ v_f_Mcount, gdW w := fun w h => (List.mem_cons.mp h).elim (fun e => by rw [e]; exact good_of_word rfl) (fun h => (List.mem_append.mp h).elim (fun h => good_of_word (List.all_eq_true.mp gk_f_Mcount w h)) (fun h => (List.mem_append.mp h).elim (gd_wsX120 w) (fun h => (List.mem_append.mp h).elim (gd_v_k_in w) (fun h => nomatch h))))
theorem g_f_Mcount_274_v_k_in : GoodIn v_f_Mcount (wsS RX12 274 yX12_in v_k_in) := goodIn_app (fun w h => (fun h => (List.mem_cons.mp h).elim (fun e => by rw [e]; exact ⟨m_f_Mcount_l274, good_of_word rfl⟩) (fun h => (List.mem_cons.mp h).elim (fun e => by rw [e]; exact ⟨m_f_Mcount_j274, good_of_word rfl⟩) (fun h => (List.mem_cons.mp h).elim (fun e => by rw [e]; exact ⟨m_f_Mcount_z12, good_of_word rfl⟩) (fun h => nomatch h)))) h) (fun w h => ⟨j_f_Mcount_v_k_in w h, gd_v_k_in w h⟩)
set_option maxHeartbeats 4000000 in
set_option maxRecDepth 100000 in
theorem f_Mcount (l : Launch) (D : va_G) (cA : Nat → ClassId) (E : hp_N) (sz : Nat) (g : hp_M) (h : Nat) (hf : fr_Model cA g h) (x : Int32) : Met l yX12_count v_f_Mcount ({ frames := 1, cells := 0, slots := 0, locals := 40 }) (hp_Pc D vwCl (hp_Tl cA) E sz g [.ref h, .int x]) (hp_Qi D vwCl (hp_Tl cA) sz g (fun r _ => (x = 9 ∧ r = 0) ∨ (¬ x = 9 ∧ ((¬ (¬ x.toInt64 < 0 ∧ ¬ (8 : Int64) < x.toInt64) ∧ r = -1) ∨ ((¬ x.toInt64 < 0 ∧ ¬ (8 : Int64) < x.toInt64) ∧ r = 0))))) 0 0 (hp_A g sz) := by
  refine hp_ofW (cc := cX12_count) (maxL := 4) (ret := (some .int)) (by decide) rfl (Nat.le_of_ble_eq_true rfl) ?_
  intro pp ee ss mm bb mt cd ls cx hsz hw hl
  have hl : lv_has ls 4 [(0, .ref h), (1, .int x)] := hl
  obtain ⟨r, hh, ht, hx⟩ := hf
  refine lv_aload_n cx.1 cx.2.1 dX12_count_0 rfl (lv_at hl 0 rfl) ?_
  refine lv_iconst (v := 0) cx.1 cx.2.1 dX12_count_1 (by decide) ?_
  obtain ⟨F2, eF2⟩ : ∃ F1, F1 = (md0 r).set 0 (.int 0) := ⟨_, rfl⟩
  have lF2 : F2.length = 137 := by rw [eF2, List.length_set]; exact (md0_len r)
  have vF2 : F2[0]? = some (.int 0) := by rw [eF2]; exact fl_self (by rw [(md0_len r)]; decide)
  refine hp_put (C := RX12) (T := TX12) (N := 137) (ci := 12) (fs' := F2) cx hw i_f_Mcount_X12 tyX12_ok nmX12 rfl hh 0 (by decide) m_f_Mcount_f268 rfl  rfl rfl (by rw [(md0_len r)]; decide) eF2.symm dX12_count_2 (fun g1 H locs eg1 hw => ?_)
  have f3 : g1 h = some (.inr (12, F2)) := (by rw [eg1]; exact hp_up_self _ _ _)
  refine lv_iload_n cx.1 cx.2.1 dX12_count_5 rfl (lv_at hl 1 rfl) ?_
  refine lv_bipush (v := 9) cx.1 cx.2.1 dX12_count_6 (by decide) ?_
  refine lv_icmp_ne (tgt := 16) cx.1 cx.2.1 dX12_count_8 (by decide) (fun c8_4 => ?_) (fun c8_4 => ?_)
  · skip
    refine lv_iload_n cx.1 cx.2.1 dX12_count_16 rfl (lv_at hl 1 rfl) ?_
    refine lv_i2l (v := (x.toInt64)) cx.1 cx.2.1 dX12_count_17 rfl ?_
    refine lv_lconst (v := 0) cx.1 cx.2.1 dX12_count_18 (by decide) ?_
    refine lv_ldc2 cx.1 cx.2.1 cx.2.2.2.2.1 (cx.2.2.2.2.2.1 _ m_f_Mcount_c707) dX12_count_19 ?_
    refine hp_callSi (As := [.long (x.toInt64), .long 0, .long 8]) (rest := []) cx hw (k_in l D cA E _ g1 (x.toInt64) 0 8) (cwS 3 cx.2.2.2.2.2.1 g_f_Mcount_274_v_k_in rfl rfl rfl (by decide +kernel) ⟨Nat.le_of_ble_eq_true rfl, Nat.le_of_ble_eq_true rfl⟩) rfl hl.1 rfl (Nat.le_of_ble_eq_true rfl) dX12_count_22 ⟨Nat.le_of_ble_eq_true rfl, Nat.le_of_ble_eq_true rfl⟩ (fun r6 u5 H locs hp7 hw => ?_)
    obtain ⟨euu5, err6⟩ := hp7
    rw [euu5] at hw
    refine lv_if_ne (tgt := 30) cx.1 cx.2.1 dX12_count_25 (by decide) (fun c25_8 => ?_) (fun c25_8 => ?_)
    · skip
      refine lv_aload_n cx.1 cx.2.1 dX12_count_30 rfl (lv_at hl 0 rfl) ?_
      have v9 : F2[5]? = some (.int 0) := by rw [eF2]; exact (fl_ne (by decide)).trans (rfl)
      refine hp_get (C := RX12) (T := TX12) (N := 137) (ci := 12) cx hw i_f_Mcount_X12 rfl f3 5 (by decide) m_f_Mcount_f428 (v := .int 0) v9 dX12_count_31 ?_
      refine lv_if_ne (tgt := 39) cx.1 cx.2.1 dX12_count_34 (by decide) (fun c34_10 => ?_) (fun c34_10 => ?_)
      · exact absurd c34_10 (by decide)
      refine lv_iconst (v := 0) cx.1 cx.2.1 dX12_count_37 (by decide) ?_
      exact hp_iret cx hw (Or.inr ⟨c8_4, Or.inr ⟨Classical.not_not.mp fun q => c25_8 (by rw [err6, if_neg q]), rfl⟩⟩) dX12_count_38
    · skip
      refine lv_iconst (v := (-1)) cx.1 cx.2.1 dX12_count_28 (by decide) ?_
      exact hp_iret cx hw (Or.inr ⟨c8_4, Or.inl ⟨fun q => absurd c25_8 (by rw [err6, if_pos q]; decide), rfl⟩⟩) dX12_count_29
  · skip
    refine lv_aload_n cx.1 cx.2.1 dX12_count_11 rfl (lv_at hl 0 rfl) ?_
    have v11 : F2[2]? = some (.int 0) := by rw [eF2]; exact (fl_ne (by decide)).trans (rfl)
    refine hp_get (C := RX12) (T := TX12) (N := 137) (ci := 12) cx hw i_f_Mcount_X12 rfl f3 2 (by decide) m_f_Mcount_f271 (v := .int 0) v11 dX12_count_12 ?_
    exact hp_iret cx hw (Or.inl ⟨c8_4, rfl⟩) dX12_count_15

def lk_k_isUnit_no : List Cond := [Cond.fieldLink RX12 428 "WardenHouseModel" "hasProgram" "Z"]
def v_k_isUnit_no : List Cond := .code yX12_isUnit cX12_isUnit 2 (some .boolean) :: (lk_k_isUnit_no ++ (wsX120 ++ []))
theorem m_k_isUnit_no_f428 : Cond.fieldLink RX12 428 "WardenHouseModel" "hasProgram" "Z" ∈ v_k_isUnit_no := List.mem_cons_of_mem _ (List.mem_append_left _ (List.mem_of_getElem? (i := 0) rfl))
theorem i_k_isUnit_no_X12 : ∀ w ∈ wsX120, w ∈ v_k_isUnit_no := fun _ h => List.mem_cons_of_mem _ (List.mem_append_right _ (List.mem_append_left _ h))
theorem gk_k_isUnit_no : lk_k_isUnit_no.all goodWord = true := by decide +kernel
theorem gd_v_k_isUnit_no : ∀ w ∈ v_k_isUnit_no, gdW w := fun w h => (List.mem_cons.mp h).elim (fun e => by rw [e]; exact good_of_word rfl) (fun h => (List.mem_append.mp h).elim (fun h => good_of_word (List.all_eq_true.mp gk_k_isUnit_no w h)) (fun h => (List.mem_append.mp h).elim (gd_wsX120 w) (fun h => nomatch h)))
set_option maxHeartbeats 4000000 in
set_option maxRecDepth 100000 in
theorem k_isUnit_no (l : Launch) (D : va_G) (cA : Nat → ClassId) (E : hp_N) (sz : Nat) (g : hp_M) (x : Int32) (h : Nat) (fs : List Value) (hL : fs.length = 137) (hh : g h = some (.inr (12, fs))) (h5 : fs[5]? = some (.int 0))  : Met l yX12_isUnit v_k_isUnit_no ({ frames := 0, cells := 0, slots := 0, locals := 0 }) (hp_Pc D vwCl (hp_Tl cA) E sz g [.ref h, .int x]) (hp_Qi D vwCl (hp_Tl cA) sz g (fun r u => u = g ∧ r = 0)) 0 0 (hp_A g sz) := by
  refine hp_ofW (cc := cX12_isUnit) (maxL := 2) (ret := (some .boolean)) (by decide) rfl (Nat.le_of_ble_eq_true rfl) ?_
  intro pp ee ss mm bb mt cd ls cx hsz hw hl
  have hl : lv_has ls 2 [(0, .ref h), (1, .int x)] := hl
  refine lv_aload_n cx.1 cx.2.1 dX12_isUnit_0 rfl (lv_at hl 0 rfl) ?_
  refine hp_get (C := RX12) (T := TX12) (N := 137) (ci := 12) cx hw i_k_isUnit_no_X12 rfl hh 5 (by decide) m_k_isUnit_no_f428 (v := .int 0) h5 dX12_isUnit_1 ?_
  refine lv_if_eq (tgt := 27) cx.1 cx.2.1 dX12_isUnit_4 (by decide) (fun c4_1 => ?_) (fun c4_1 => ?_)
  rotate_left
  · exact absurd (by decide) c4_1
  refine lv_iconst (v := 0) cx.1 cx.2.1 dX12_isUnit_27 (by decide) ?_
  exact hp_zret cx hw (⟨rfl, rfl⟩) (by decide) dX12_isUnit_28

def lk_f_Munit : List Cond := [Cond.fieldLink RX12 268 "WardenHouseModel" "thrown" "I", Cond.methodLink RX12 709 yX12_isUnit, Cond.instanceMethod yX12_isUnit, Cond.selects RX12 yX12_isUnit yX12_isUnit, Cond.initialized RX12]
def v_f_Munit : List Cond := .code yX12_unit cX12_unit 3 (some .int) :: (lk_f_Munit ++ (wsX120 ++ (v_k_isUnit_no ++ [])))
theorem m_f_Munit_f268 : Cond.fieldLink RX12 268 "WardenHouseModel" "thrown" "I" ∈ v_f_Munit := List.mem_cons_of_mem _ (List.mem_append_left _ (List.mem_of_getElem? (i := 0) rfl))
theorem m_f_Munit_l709 : Cond.methodLink RX12 709 yX12_isUnit ∈ v_f_Munit := List.mem_cons_of_mem _ (List.mem_append_left _ (List.mem_of_getElem? (i := 1) rfl))
theorem m_f_Munit_j709 : Cond.instanceMethod yX12_isUnit ∈ v_f_Munit := List.mem_cons_of_mem _ (List.mem_append_left _ (List.mem_of_getElem? (i := 2) rfl))
theorem m_f_Munit_s709 : Cond.selects RX12 yX12_isUnit yX12_isUnit ∈ v_f_Munit := List.mem_cons_of_mem _ (List.mem_append_left _ (List.mem_of_getElem? (i := 3) rfl))
theorem m_f_Munit_z12 : Cond.initialized RX12 ∈ v_f_Munit := List.mem_cons_of_mem _ (List.mem_append_left _ (List.mem_of_getElem? (i := 4) rfl))
theorem i_f_Munit_X12 : ∀ w ∈ wsX120, w ∈ v_f_Munit := fun _ h => List.mem_cons_of_mem _ (List.mem_append_right _ (List.mem_append_left _ h))
theorem j_f_Munit_v_k_isUnit_no : ∀ w ∈ v_k_isUnit_no, w ∈ v_f_Munit := fun _ h => List.mem_cons_of_mem _ (List.mem_append_right _ (List.mem_append_right _ (List.mem_append_left _ h)))
theorem gk_f_Munit : lk_f_Munit.all goodWord = true := by decide +kernel
theorem gd_v_f_Munit : ∀ w ∈ v_f_Munit, gdW w := fun w h => (List.mem_cons.mp h).elim (fun e => by rw [e]; exact good_of_word rfl) (fun h => (List.mem_append.mp h).elim (fun h => good_of_word (List.all_eq_true.mp gk_f_Munit w h)) (fun h => (List.mem_append.mp h).elim (gd_wsX120 w) (fun h => (List.mem_append.mp h).elim (gd_v_k_isUnit_no w) (fun h => nomatch h))))
theorem g_f_Munit_709_v_k_isUnit_no : GoodIn v_f_Munit (wsV RX12 709 RX12 yX12_isUnit v_k_isUnit_no) := goodIn_app (fun w h => (fun h => (List.mem_cons.mp h).elim (fun e => by rw [e]; exact ⟨m_f_Munit_l709, good_of_word rfl⟩) (fun h => (List.mem_cons.mp h).elim (fun e => by rw [e]; exact ⟨m_f_Munit_j709, good_of_word rfl⟩) (fun h => (List.mem_cons.mp h).elim (fun e => by rw [e]; exact ⟨m_f_Munit_s709, good_of_word rfl⟩) (fun h => (List.mem_cons.mp h).elim (fun e => by rw [e]; exact ⟨m_f_Munit_z12, good_of_word rfl⟩) (fun h => nomatch h))))) h) (fun w h => ⟨j_f_Munit_v_k_isUnit_no w h, gd_v_k_isUnit_no w h⟩)
set_option maxHeartbeats 4000000 in
set_option maxRecDepth 100000 in
theorem f_Munit (l : Launch) (D : va_G) (cA : Nat → ClassId) (E : hp_N) (sz : Nat) (g : hp_M) (h : Nat) (hf : fr_Model cA g h) (x y : Int32) : Met l yX12_unit v_f_Munit ({ frames := 1, cells := 0, slots := 0, locals := 40 }) (hp_Pc D vwCl (hp_Tl cA) E sz g [.ref h, .int x, .int y]) (hp_Qi D vwCl (hp_Tl cA) sz g (fun r _ => r = -1)) 0 0 (hp_A g sz) := by
  refine hp_ofW (cc := cX12_unit) (maxL := 3) (ret := (some .int)) (by decide) rfl (Nat.le_of_ble_eq_true rfl) ?_
  intro pp ee ss mm bb mt cd ls cx hsz hw hl
  have hl : lv_has ls 3 [(0, .ref h), (1, .int x), (2, .int y)] := hl
  obtain ⟨r, hh, ht, hx⟩ := hf
  refine lv_aload_n cx.1 cx.2.1 dX12_unit_0 rfl (lv_at hl 0 rfl) ?_
  refine lv_iconst (v := 0) cx.1 cx.2.1 dX12_unit_1 (by decide) ?_
  obtain ⟨F2, eF2⟩ : ∃ F1, F1 = (md0 r).set 0 (.int 0) := ⟨_, rfl⟩
  have lF2 : F2.length = 137 := by rw [eF2, List.length_set]; exact (md0_len r)
  have vF2 : F2[0]? = some (.int 0) := by rw [eF2]; exact fl_self (by rw [(md0_len r)]; decide)
  refine hp_put (C := RX12) (T := TX12) (N := 137) (ci := 12) (fs' := F2) cx hw i_f_Munit_X12 tyX12_ok nmX12 rfl hh 0 (by decide) m_f_Munit_f268 rfl  rfl rfl (by rw [(md0_len r)]; decide) eF2.symm dX12_unit_2 (fun g1 H locs eg1 hw => ?_)
  have f3 : g1 h = some (.inr (12, F2)) := (by rw [eg1]; exact hp_up_self _ _ _)
  refine lv_aload_n cx.1 cx.2.1 dX12_unit_5 rfl (lv_at hl 0 rfl) ?_
  refine lv_iload_n cx.1 cx.2.1 dX12_unit_6 rfl (lv_at hl 1 rfl) ?_
  have v4 : F2[5]? = some (.int 0) := by rw [eF2]; exact (fl_ne (by decide)).trans (rfl)
  refine hp_callVi (As := [.int x]) (rest := []) cx hw (k_isUnit_no l D cA E _ g1 x h F2 lF2 f3 v4) (cwV 1 cx.2.2.2.2.2.1 g_f_Munit_709_v_k_isUnit_no rfl rfl rfl (by decide +kernel) ⟨Nat.le_of_ble_eq_true rfl, Nat.le_of_ble_eq_true rfl⟩) f3 rfl rfl hl.1 rfl (Nat.le_of_ble_eq_true rfl) dX12_unit_7 ⟨Nat.le_of_ble_eq_true rfl, Nat.le_of_ble_eq_true rfl⟩ (fun r6 u5 H locs hp7 hw => ?_)
  obtain ⟨euu5, err6⟩ := hp7
  rw [euu5] at hw
  subst err6
  refine lv_if_ne (tgt := 15) cx.1 cx.2.1 dX12_unit_10 (by decide) (fun c10_8 => ?_) (fun c10_8 => ?_)
  · exact absurd c10_8 (by decide)
  refine lv_iconst (v := (-1)) cx.1 cx.2.1 dX12_unit_13 (by decide) ?_
  exact hp_iret cx hw (rfl) dX12_unit_14

def lk_f_Mcode : List Cond := [Cond.fieldLink RX12 268 "WardenHouseModel" "thrown" "I", Cond.methodLink RX12 709 yX12_isUnit, Cond.instanceMethod yX12_isUnit, Cond.selects RX12 yX12_isUnit yX12_isUnit, Cond.initialized RX12]
def v_f_Mcode : List Cond := .code yX12_code cX12_code 5 (some .int) :: (lk_f_Mcode ++ (wsX120 ++ (v_k_isUnit_no ++ [])))
theorem m_f_Mcode_f268 : Cond.fieldLink RX12 268 "WardenHouseModel" "thrown" "I" ∈ v_f_Mcode := List.mem_cons_of_mem _ (List.mem_append_left _ (List.mem_of_getElem? (i := 0) rfl))
theorem m_f_Mcode_l709 : Cond.methodLink RX12 709 yX12_isUnit ∈ v_f_Mcode := List.mem_cons_of_mem _ (List.mem_append_left _ (List.mem_of_getElem? (i := 1) rfl))
theorem m_f_Mcode_j709 : Cond.instanceMethod yX12_isUnit ∈ v_f_Mcode := List.mem_cons_of_mem _ (List.mem_append_left _ (List.mem_of_getElem? (i := 2) rfl))
theorem m_f_Mcode_s709 : Cond.selects RX12 yX12_isUnit yX12_isUnit ∈ v_f_Mcode := List.mem_cons_of_mem _ (List.mem_append_left _ (List.mem_of_getElem? (i := 3) rfl))
theorem m_f_Mcode_z12 : Cond.initialized RX12 ∈ v_f_Mcode := List.mem_cons_of_mem _ (List.mem_append_left _ (List.mem_of_getElem? (i := 4) rfl))
theorem i_f_Mcode_X12 : ∀ w ∈ wsX120, w ∈ v_f_Mcode := fun _ h => List.mem_cons_of_mem _ (List.mem_append_right _ (List.mem_append_left _ h))
theorem j_f_Mcode_v_k_isUnit_no : ∀ w ∈ v_k_isUnit_no, w ∈ v_f_Mcode := fun _ h => List.mem_cons_of_mem _ (List.mem_append_right _ (List.mem_append_right _ (List.mem_append_left _ h)))
theorem gk_f_Mcode : lk_f_Mcode.all goodWord = true := by decide +kernel
theorem gd_v_f_Mcode : ∀ w ∈ v_f_Mcode, gdW w := fun w h => (List.mem_cons.mp h).elim (fun e => by rw [e]; exact good_of_word rfl) (fun h => (List.mem_append.mp h).elim (fun h => good_of_word (List.all_eq_true.mp gk_f_Mcode w h)) (fun h => (List.mem_append.mp h).elim (gd_wsX120 w) (fun h => (List.mem_append.mp h).elim (gd_v_k_isUnit_no w) (fun h => nomatch h))))
theorem g_f_Mcode_709_v_k_isUnit_no : GoodIn v_f_Mcode (wsV RX12 709 RX12 yX12_isUnit v_k_isUnit_no) := goodIn_app (fun w h => (fun h => (List.mem_cons.mp h).elim (fun e => by rw [e]; exact ⟨m_f_Mcode_l709, good_of_word rfl⟩) (fun h => (List.mem_cons.mp h).elim (fun e => by rw [e]; exact ⟨m_f_Mcode_j709, good_of_word rfl⟩) (fun h => (List.mem_cons.mp h).elim (fun e => by rw [e]; exact ⟨m_f_Mcode_s709, good_of_word rfl⟩) (fun h => (List.mem_cons.mp h).elim (fun e => by rw [e]; exact ⟨m_f_Mcode_z12, good_of_word rfl⟩) (fun h => nomatch h))))) h) (fun w h => ⟨j_f_Mcode_v_k_isUnit_no w h, gd_v_k_isUnit_no w h⟩)
set_option maxHeartbeats 4000000 in
set_option maxRecDepth 100000 in
theorem f_Mcode (l : Launch) (D : va_G) (cA : Nat → ClassId) (E : hp_N) (sz : Nat) (g : hp_M) (h : Nat) (hf : fr_Model cA g h) (x y z : Int32) : Met l yX12_code v_f_Mcode ({ frames := 1, cells := 0, slots := 0, locals := 40 }) (hp_Pc D vwCl (hp_Tl cA) E sz g [.ref h, .int x, .int y, .int z]) (hp_Qi D vwCl (hp_Tl cA) sz g (fun r _ => r = -1)) 0 0 (hp_A g sz) := by
  refine hp_ofW (cc := cX12_code) (maxL := 5) (ret := (some .int)) (by decide) rfl (Nat.le_of_ble_eq_true rfl) ?_
  intro pp ee ss mm bb mt cd ls cx hsz hw hl
  have hl : lv_has ls 5 [(0, .ref h), (1, .int x), (2, .int y), (3, .int z)] := hl
  obtain ⟨r, hh, ht, hx⟩ := hf
  refine lv_aload_n cx.1 cx.2.1 dX12_code_0 rfl (lv_at hl 0 rfl) ?_
  refine lv_iconst (v := 0) cx.1 cx.2.1 dX12_code_1 (by decide) ?_
  obtain ⟨F2, eF2⟩ : ∃ F1, F1 = (md0 r).set 0 (.int 0) := ⟨_, rfl⟩
  have lF2 : F2.length = 137 := by rw [eF2, List.length_set]; exact (md0_len r)
  have vF2 : F2[0]? = some (.int 0) := by rw [eF2]; exact fl_self (by rw [(md0_len r)]; decide)
  refine hp_put (C := RX12) (T := TX12) (N := 137) (ci := 12) (fs' := F2) cx hw i_f_Mcode_X12 tyX12_ok nmX12 rfl hh 0 (by decide) m_f_Mcode_f268 rfl  rfl rfl (by rw [(md0_len r)]; decide) eF2.symm dX12_code_2 (fun g1 H locs eg1 hw => ?_)
  have f3 : g1 h = some (.inr (12, F2)) := (by rw [eg1]; exact hp_up_self _ _ _)
  refine lv_aload_n cx.1 cx.2.1 dX12_code_5 rfl (lv_at hl 0 rfl) ?_
  refine lv_iload_n cx.1 cx.2.1 dX12_code_6 rfl (lv_at hl 1 rfl) ?_
  have v4 : F2[5]? = some (.int 0) := by rw [eF2]; exact (fl_ne (by decide)).trans (rfl)
  refine hp_callVi (As := [.int x]) (rest := []) cx hw (k_isUnit_no l D cA E _ g1 x h F2 lF2 f3 v4) (cwV 1 cx.2.2.2.2.2.1 g_f_Mcode_709_v_k_isUnit_no rfl rfl rfl (by decide +kernel) ⟨Nat.le_of_ble_eq_true rfl, Nat.le_of_ble_eq_true rfl⟩) f3 rfl rfl hl.1 rfl (Nat.le_of_ble_eq_true rfl) dX12_code_7 ⟨Nat.le_of_ble_eq_true rfl, Nat.le_of_ble_eq_true rfl⟩ (fun r6 u5 H locs hp7 hw => ?_)
  obtain ⟨euu5, err6⟩ := hp7
  rw [euu5] at hw
  subst err6
  refine lv_if_ne (tgt := 15) cx.1 cx.2.1 dX12_code_10 (by decide) (fun c10_8 => ?_) (fun c10_8 => ?_)
  · exact absurd c10_8 (by decide)
  refine lv_iconst (v := (-1)) cx.1 cx.2.1 dX12_code_13 (by decide) ?_
  exact hp_iret cx hw (rfl) dX12_code_14

def lk_f_Mnumber : List Cond := [Cond.fieldLink RX12 268 "WardenHouseModel" "thrown" "I", Cond.fieldLink RX12 428 "WardenHouseModel" "hasProgram" "Z"]
def v_f_Mnumber : List Cond := .code yX12_number cX12_number 2 (some .int) :: (lk_f_Mnumber ++ (wsX120 ++ []))
theorem m_f_Mnumber_f268 : Cond.fieldLink RX12 268 "WardenHouseModel" "thrown" "I" ∈ v_f_Mnumber := List.mem_cons_of_mem _ (List.mem_append_left _ (List.mem_of_getElem? (i := 0) rfl))
theorem m_f_Mnumber_f428 : Cond.fieldLink RX12 428 "WardenHouseModel" "hasProgram" "Z" ∈ v_f_Mnumber := List.mem_cons_of_mem _ (List.mem_append_left _ (List.mem_of_getElem? (i := 1) rfl))
theorem i_f_Mnumber_X12 : ∀ w ∈ wsX120, w ∈ v_f_Mnumber := fun _ h => List.mem_cons_of_mem _ (List.mem_append_right _ (List.mem_append_left _ h))
theorem gk_f_Mnumber : lk_f_Mnumber.all goodWord = true := by decide +kernel
theorem gd_v_f_Mnumber : ∀ w ∈ v_f_Mnumber, gdW w := fun w h => (List.mem_cons.mp h).elim (fun e => by rw [e]; exact good_of_word rfl) (fun h => (List.mem_append.mp h).elim (fun h => good_of_word (List.all_eq_true.mp gk_f_Mnumber w h)) (fun h => (List.mem_append.mp h).elim (gd_wsX120 w) (fun h => nomatch h)))
set_option maxHeartbeats 4000000 in
set_option maxRecDepth 100000 in
theorem f_Mnumber (l : Launch) (D : va_G) (cA : Nat → ClassId) (E : hp_N) (sz : Nat) (g : hp_M) (h : Nat) (hf : fr_Model cA g h) (x : Int32) : Met l yX12_number v_f_Mnumber ({ frames := 0, cells := 0, slots := 0, locals := 0 }) (hp_Pc D vwCl (hp_Tl cA) E sz g [.ref h, .int x]) (hp_Qi D vwCl (hp_Tl cA) sz g (fun r _ => r = 0)) 0 0 (hp_A g sz) := by
  refine hp_ofW (cc := cX12_number) (maxL := 2) (ret := (some .int)) (by decide) rfl (Nat.le_of_ble_eq_true rfl) ?_
  intro pp ee ss mm bb mt cd ls cx hsz hw hl
  have hl : lv_has ls 2 [(0, .ref h), (1, .int x)] := hl
  obtain ⟨r, hh, ht, hx⟩ := hf
  refine lv_aload_n cx.1 cx.2.1 dX12_number_0 rfl (lv_at hl 0 rfl) ?_
  refine lv_iconst (v := 0) cx.1 cx.2.1 dX12_number_1 (by decide) ?_
  obtain ⟨F2, eF2⟩ : ∃ F1, F1 = (md0 r).set 0 (.int 0) := ⟨_, rfl⟩
  have lF2 : F2.length = 137 := by rw [eF2, List.length_set]; exact (md0_len r)
  have vF2 : F2[0]? = some (.int 0) := by rw [eF2]; exact fl_self (by rw [(md0_len r)]; decide)
  refine hp_put (C := RX12) (T := TX12) (N := 137) (ci := 12) (fs' := F2) cx hw i_f_Mnumber_X12 tyX12_ok nmX12 rfl hh 0 (by decide) m_f_Mnumber_f268 rfl  rfl rfl (by rw [(md0_len r)]; decide) eF2.symm dX12_number_2 (fun g1 H locs eg1 hw => ?_)
  have f3 : g1 h = some (.inr (12, F2)) := (by rw [eg1]; exact hp_up_self _ _ _)
  refine lv_aload_n cx.1 cx.2.1 dX12_number_5 rfl (lv_at hl 0 rfl) ?_
  have v4 : F2[5]? = some (.int 0) := by rw [eF2]; exact (fl_ne (by decide)).trans (rfl)
  refine hp_get (C := RX12) (T := TX12) (N := 137) (ci := 12) cx hw i_f_Mnumber_X12 rfl f3 5 (by decide) m_f_Mnumber_f428 (v := .int 0) v4 dX12_number_6 ?_
  refine lv_if_eq (tgt := 37) cx.1 cx.2.1 dX12_number_9 (by decide) (fun c9_5 => ?_) (fun c9_5 => ?_)
  rotate_left
  · exact absurd (by decide) c9_5
  refine lv_iconst (v := 0) cx.1 cx.2.1 dX12_number_37 (by decide) ?_
  exact hp_iret cx hw (rfl) dX12_number_38

def lk_f_Mdomain : List Cond := [Cond.fieldLink RX12 268 "WardenHouseModel" "thrown" "I", Cond.fieldLink RX12 428 "WardenHouseModel" "hasProgram" "Z"]
def v_f_Mdomain : List Cond := .code yX12_domain cX12_domain 2 (some .int) :: (lk_f_Mdomain ++ (wsX120 ++ []))
theorem m_f_Mdomain_f268 : Cond.fieldLink RX12 268 "WardenHouseModel" "thrown" "I" ∈ v_f_Mdomain := List.mem_cons_of_mem _ (List.mem_append_left _ (List.mem_of_getElem? (i := 0) rfl))
theorem m_f_Mdomain_f428 : Cond.fieldLink RX12 428 "WardenHouseModel" "hasProgram" "Z" ∈ v_f_Mdomain := List.mem_cons_of_mem _ (List.mem_append_left _ (List.mem_of_getElem? (i := 1) rfl))
theorem i_f_Mdomain_X12 : ∀ w ∈ wsX120, w ∈ v_f_Mdomain := fun _ h => List.mem_cons_of_mem _ (List.mem_append_right _ (List.mem_append_left _ h))
theorem gk_f_Mdomain : lk_f_Mdomain.all goodWord = true := by decide +kernel
theorem gd_v_f_Mdomain : ∀ w ∈ v_f_Mdomain, gdW w := fun w h => (List.mem_cons.mp h).elim (fun e => by rw [e]; exact good_of_word rfl) (fun h => (List.mem_append.mp h).elim (fun h => good_of_word (List.all_eq_true.mp gk_f_Mdomain w h)) (fun h => (List.mem_append.mp h).elim (gd_wsX120 w) (fun h => nomatch h)))
set_option maxHeartbeats 4000000 in
set_option maxRecDepth 100000 in
theorem f_Mdomain (l : Launch) (D : va_G) (cA : Nat → ClassId) (E : hp_N) (sz : Nat) (g : hp_M) (h : Nat) (hf : fr_Model cA g h) (x : Int32) : Met l yX12_domain v_f_Mdomain ({ frames := 0, cells := 0, slots := 0, locals := 0 }) (hp_Pc D vwCl (hp_Tl cA) E sz g [.ref h, .int x]) (hp_Qi D vwCl (hp_Tl cA) sz g (fun r _ => r = -1)) 0 0 (hp_A g sz) := by
  refine hp_ofW (cc := cX12_domain) (maxL := 2) (ret := (some .int)) (by decide) rfl (Nat.le_of_ble_eq_true rfl) ?_
  intro pp ee ss mm bb mt cd ls cx hsz hw hl
  have hl : lv_has ls 2 [(0, .ref h), (1, .int x)] := hl
  obtain ⟨r, hh, ht, hx⟩ := hf
  refine lv_aload_n cx.1 cx.2.1 dX12_domain_0 rfl (lv_at hl 0 rfl) ?_
  refine lv_iconst (v := 0) cx.1 cx.2.1 dX12_domain_1 (by decide) ?_
  obtain ⟨F2, eF2⟩ : ∃ F1, F1 = (md0 r).set 0 (.int 0) := ⟨_, rfl⟩
  have lF2 : F2.length = 137 := by rw [eF2, List.length_set]; exact (md0_len r)
  have vF2 : F2[0]? = some (.int 0) := by rw [eF2]; exact fl_self (by rw [(md0_len r)]; decide)
  refine hp_put (C := RX12) (T := TX12) (N := 137) (ci := 12) (fs' := F2) cx hw i_f_Mdomain_X12 tyX12_ok nmX12 rfl hh 0 (by decide) m_f_Mdomain_f268 rfl  rfl rfl (by rw [(md0_len r)]; decide) eF2.symm dX12_domain_2 (fun g1 H locs eg1 hw => ?_)
  have f3 : g1 h = some (.inr (12, F2)) := (by rw [eg1]; exact hp_up_self _ _ _)
  refine lv_aload_n cx.1 cx.2.1 dX12_domain_5 rfl (lv_at hl 0 rfl) ?_
  have v4 : F2[5]? = some (.int 0) := by rw [eF2]; exact (fl_ne (by decide)).trans (rfl)
  refine hp_get (C := RX12) (T := TX12) (N := 137) (ci := 12) cx hw i_f_Mdomain_X12 rfl f3 5 (by decide) m_f_Mdomain_f428 (v := .int 0) v4 dX12_domain_6 ?_
  refine lv_if_eq (tgt := 37) cx.1 cx.2.1 dX12_domain_9 (by decide) (fun c9_5 => ?_) (fun c9_5 => ?_)
  rotate_left
  · exact absurd (by decide) c9_5
  refine lv_iconst (v := (-1)) cx.1 cx.2.1 dX12_domain_37 (by decide) ?_
  exact hp_iret cx hw (rfl) dX12_domain_38

def lk_f_Mhas : List Cond := [Cond.fieldLink RX12 268 "WardenHouseModel" "thrown" "I", Cond.fieldLink RX12 428 "WardenHouseModel" "hasProgram" "Z"]
def v_f_Mhas : List Cond := .code yX12_has cX12_has 4 (some .int) :: (lk_f_Mhas ++ (wsX120 ++ []))
theorem m_f_Mhas_f268 : Cond.fieldLink RX12 268 "WardenHouseModel" "thrown" "I" ∈ v_f_Mhas := List.mem_cons_of_mem _ (List.mem_append_left _ (List.mem_of_getElem? (i := 0) rfl))
theorem m_f_Mhas_f428 : Cond.fieldLink RX12 428 "WardenHouseModel" "hasProgram" "Z" ∈ v_f_Mhas := List.mem_cons_of_mem _ (List.mem_append_left _ (List.mem_of_getElem? (i := 1) rfl))
theorem i_f_Mhas_X12 : ∀ w ∈ wsX120, w ∈ v_f_Mhas := fun _ h => List.mem_cons_of_mem _ (List.mem_append_right _ (List.mem_append_left _ h))
theorem gk_f_Mhas : lk_f_Mhas.all goodWord = true := by decide +kernel
theorem gd_v_f_Mhas : ∀ w ∈ v_f_Mhas, gdW w := fun w h => (List.mem_cons.mp h).elim (fun e => by rw [e]; exact good_of_word rfl) (fun h => (List.mem_append.mp h).elim (fun h => good_of_word (List.all_eq_true.mp gk_f_Mhas w h)) (fun h => (List.mem_append.mp h).elim (gd_wsX120 w) (fun h => nomatch h)))
set_option maxHeartbeats 4000000 in
set_option maxRecDepth 100000 in
theorem f_Mhas (l : Launch) (D : va_G) (cA : Nat → ClassId) (E : hp_N) (sz : Nat) (g : hp_M) (h : Nat) (hf : fr_Model cA g h) (x y : Int32) : Met l yX12_has v_f_Mhas ({ frames := 0, cells := 0, slots := 0, locals := 0 }) (hp_Pc D vwCl (hp_Tl cA) E sz g [.ref h, .int x, .int y]) (hp_Qi D vwCl (hp_Tl cA) sz g (fun r _ => r = -1)) 0 0 (hp_A g sz) := by
  refine hp_ofW (cc := cX12_has) (maxL := 4) (ret := (some .int)) (by decide) rfl (Nat.le_of_ble_eq_true rfl) ?_
  intro pp ee ss mm bb mt cd ls cx hsz hw hl
  have hl : lv_has ls 4 [(0, .ref h), (1, .int x), (2, .int y)] := hl
  obtain ⟨r, hh, ht, hx⟩ := hf
  refine lv_aload_n cx.1 cx.2.1 dX12_has_0 rfl (lv_at hl 0 rfl) ?_
  refine lv_iconst (v := 0) cx.1 cx.2.1 dX12_has_1 (by decide) ?_
  obtain ⟨F2, eF2⟩ : ∃ F1, F1 = (md0 r).set 0 (.int 0) := ⟨_, rfl⟩
  have lF2 : F2.length = 137 := by rw [eF2, List.length_set]; exact (md0_len r)
  have vF2 : F2[0]? = some (.int 0) := by rw [eF2]; exact fl_self (by rw [(md0_len r)]; decide)
  refine hp_put (C := RX12) (T := TX12) (N := 137) (ci := 12) (fs' := F2) cx hw i_f_Mhas_X12 tyX12_ok nmX12 rfl hh 0 (by decide) m_f_Mhas_f268 rfl  rfl rfl (by rw [(md0_len r)]; decide) eF2.symm dX12_has_2 (fun g1 H locs eg1 hw => ?_)
  have f3 : g1 h = some (.inr (12, F2)) := (by rw [eg1]; exact hp_up_self _ _ _)
  refine lv_aload_n cx.1 cx.2.1 dX12_has_5 rfl (lv_at hl 0 rfl) ?_
  have v4 : F2[5]? = some (.int 0) := by rw [eF2]; exact (fl_ne (by decide)).trans (rfl)
  refine hp_get (C := RX12) (T := TX12) (N := 137) (ci := 12) cx hw i_f_Mhas_X12 rfl f3 5 (by decide) m_f_Mhas_f428 (v := .int 0) v4 dX12_has_6 ?_
  refine lv_if_eq (tgt := 46) cx.1 cx.2.1 dX12_has_9 (by decide) (fun c9_5 => ?_) (fun c9_5 => ?_)
  rotate_left
  · exact absurd (by decide) c9_5
  refine lv_iconst (v := (-1)) cx.1 cx.2.1 dX12_has_46 (by decide) ?_
  exact hp_iret cx hw (rfl) dX12_has_47

def lk_f_Mmay : List Cond := [Cond.fieldLink RX12 268 "WardenHouseModel" "thrown" "I", Cond.methodLink RX12 709 yX12_isUnit, Cond.instanceMethod yX12_isUnit, Cond.selects RX12 yX12_isUnit yX12_isUnit, Cond.initialized RX12]
def v_f_Mmay : List Cond := .code yX12_may cX12_may 5 (some .int) :: (lk_f_Mmay ++ (wsX120 ++ (v_k_isUnit_no ++ [])))
theorem m_f_Mmay_f268 : Cond.fieldLink RX12 268 "WardenHouseModel" "thrown" "I" ∈ v_f_Mmay := List.mem_cons_of_mem _ (List.mem_append_left _ (List.mem_of_getElem? (i := 0) rfl))
theorem m_f_Mmay_l709 : Cond.methodLink RX12 709 yX12_isUnit ∈ v_f_Mmay := List.mem_cons_of_mem _ (List.mem_append_left _ (List.mem_of_getElem? (i := 1) rfl))
theorem m_f_Mmay_j709 : Cond.instanceMethod yX12_isUnit ∈ v_f_Mmay := List.mem_cons_of_mem _ (List.mem_append_left _ (List.mem_of_getElem? (i := 2) rfl))
theorem m_f_Mmay_s709 : Cond.selects RX12 yX12_isUnit yX12_isUnit ∈ v_f_Mmay := List.mem_cons_of_mem _ (List.mem_append_left _ (List.mem_of_getElem? (i := 3) rfl))
theorem m_f_Mmay_z12 : Cond.initialized RX12 ∈ v_f_Mmay := List.mem_cons_of_mem _ (List.mem_append_left _ (List.mem_of_getElem? (i := 4) rfl))
theorem i_f_Mmay_X12 : ∀ w ∈ wsX120, w ∈ v_f_Mmay := fun _ h => List.mem_cons_of_mem _ (List.mem_append_right _ (List.mem_append_left _ h))
theorem j_f_Mmay_v_k_isUnit_no : ∀ w ∈ v_k_isUnit_no, w ∈ v_f_Mmay := fun _ h => List.mem_cons_of_mem _ (List.mem_append_right _ (List.mem_append_right _ (List.mem_append_left _ h)))
theorem gk_f_Mmay : lk_f_Mmay.all goodWord = true := by decide +kernel
theorem gd_v_f_Mmay : ∀ w ∈ v_f_Mmay, gdW w := fun w h => (List.mem_cons.mp h).elim (fun e => by rw [e]; exact good_of_word rfl) (fun h => (List.mem_append.mp h).elim (fun h => good_of_word (List.all_eq_true.mp gk_f_Mmay w h)) (fun h => (List.mem_append.mp h).elim (gd_wsX120 w) (fun h => (List.mem_append.mp h).elim (gd_v_k_isUnit_no w) (fun h => nomatch h))))
theorem g_f_Mmay_709_v_k_isUnit_no : GoodIn v_f_Mmay (wsV RX12 709 RX12 yX12_isUnit v_k_isUnit_no) := goodIn_app (fun w h => (fun h => (List.mem_cons.mp h).elim (fun e => by rw [e]; exact ⟨m_f_Mmay_l709, good_of_word rfl⟩) (fun h => (List.mem_cons.mp h).elim (fun e => by rw [e]; exact ⟨m_f_Mmay_j709, good_of_word rfl⟩) (fun h => (List.mem_cons.mp h).elim (fun e => by rw [e]; exact ⟨m_f_Mmay_s709, good_of_word rfl⟩) (fun h => (List.mem_cons.mp h).elim (fun e => by rw [e]; exact ⟨m_f_Mmay_z12, good_of_word rfl⟩) (fun h => nomatch h))))) h) (fun w h => ⟨j_f_Mmay_v_k_isUnit_no w h, gd_v_k_isUnit_no w h⟩)
set_option maxHeartbeats 4000000 in
set_option maxRecDepth 100000 in
theorem f_Mmay (l : Launch) (D : va_G) (cA : Nat → ClassId) (E : hp_N) (sz : Nat) (g : hp_M) (h : Nat) (hf : fr_Model cA g h) (x : Int32) : Met l yX12_may v_f_Mmay ({ frames := 1, cells := 0, slots := 0, locals := 40 }) (hp_Pc D vwCl (hp_Tl cA) E sz g [.ref h, .int x]) (hp_Qi D vwCl (hp_Tl cA) sz g (fun r _ => r = -1)) 0 0 (hp_A g sz) := by
  refine hp_ofW (cc := cX12_may) (maxL := 5) (ret := (some .int)) (by decide) rfl (Nat.le_of_ble_eq_true rfl) ?_
  intro pp ee ss mm bb mt cd ls cx hsz hw hl
  have hl : lv_has ls 5 [(0, .ref h), (1, .int x)] := hl
  obtain ⟨r, hh, ht, hx⟩ := hf
  refine lv_aload_n cx.1 cx.2.1 dX12_may_0 rfl (lv_at hl 0 rfl) ?_
  refine lv_iconst (v := 0) cx.1 cx.2.1 dX12_may_1 (by decide) ?_
  obtain ⟨F2, eF2⟩ : ∃ F1, F1 = (md0 r).set 0 (.int 0) := ⟨_, rfl⟩
  have lF2 : F2.length = 137 := by rw [eF2, List.length_set]; exact (md0_len r)
  have vF2 : F2[0]? = some (.int 0) := by rw [eF2]; exact fl_self (by rw [(md0_len r)]; decide)
  refine hp_put (C := RX12) (T := TX12) (N := 137) (ci := 12) (fs' := F2) cx hw i_f_Mmay_X12 tyX12_ok nmX12 rfl hh 0 (by decide) m_f_Mmay_f268 rfl  rfl rfl (by rw [(md0_len r)]; decide) eF2.symm dX12_may_2 (fun g1 H locs eg1 hw => ?_)
  have f3 : g1 h = some (.inr (12, F2)) := (by rw [eg1]; exact hp_up_self _ _ _)
  refine lv_aload_n cx.1 cx.2.1 dX12_may_5 rfl (lv_at hl 0 rfl) ?_
  refine lv_iload_n cx.1 cx.2.1 dX12_may_6 rfl (lv_at hl 1 rfl) ?_
  have v4 : F2[5]? = some (.int 0) := by rw [eF2]; exact (fl_ne (by decide)).trans (rfl)
  refine hp_callVi (As := [.int x]) (rest := []) cx hw (k_isUnit_no l D cA E _ g1 x h F2 lF2 f3 v4) (cwV 1 cx.2.2.2.2.2.1 g_f_Mmay_709_v_k_isUnit_no rfl rfl rfl (by decide +kernel) ⟨Nat.le_of_ble_eq_true rfl, Nat.le_of_ble_eq_true rfl⟩) f3 rfl rfl hl.1 rfl (Nat.le_of_ble_eq_true rfl) dX12_may_7 ⟨Nat.le_of_ble_eq_true rfl, Nat.le_of_ble_eq_true rfl⟩ (fun r6 u5 H locs hp7 hw => ?_)
  obtain ⟨euu5, err6⟩ := hp7
  rw [euu5] at hw
  subst err6
  refine lv_if_eq (tgt := 20) cx.1 cx.2.1 dX12_may_10 (by decide) (fun c10_8 => ?_) (fun c10_8 => ?_)
  rotate_left
  · exact absurd (by decide) c10_8
  refine lv_iconst (v := (-1)) cx.1 cx.2.1 dX12_may_20 (by decide) ?_
  exact hp_iret cx hw (rfl) dX12_may_21

def lk_f_Mresult : List Cond := [Cond.fieldLink RX12 268 "WardenHouseModel" "thrown" "I", Cond.fieldLink RX12 424 "WardenHouseModel" "hasRun" "Z"]
def v_f_Mresult : List Cond := .code yX12_result cX12_result 2 (some .int) :: (lk_f_Mresult ++ (wsX120 ++ []))
theorem m_f_Mresult_f268 : Cond.fieldLink RX12 268 "WardenHouseModel" "thrown" "I" ∈ v_f_Mresult := List.mem_cons_of_mem _ (List.mem_append_left _ (List.mem_of_getElem? (i := 0) rfl))
theorem m_f_Mresult_f424 : Cond.fieldLink RX12 424 "WardenHouseModel" "hasRun" "Z" ∈ v_f_Mresult := List.mem_cons_of_mem _ (List.mem_append_left _ (List.mem_of_getElem? (i := 1) rfl))
theorem i_f_Mresult_X12 : ∀ w ∈ wsX120, w ∈ v_f_Mresult := fun _ h => List.mem_cons_of_mem _ (List.mem_append_right _ (List.mem_append_left _ h))
theorem gk_f_Mresult : lk_f_Mresult.all goodWord = true := by decide +kernel
theorem gd_v_f_Mresult : ∀ w ∈ v_f_Mresult, gdW w := fun w h => (List.mem_cons.mp h).elim (fun e => by rw [e]; exact good_of_word rfl) (fun h => (List.mem_append.mp h).elim (fun h => good_of_word (List.all_eq_true.mp gk_f_Mresult w h)) (fun h => (List.mem_append.mp h).elim (gd_wsX120 w) (fun h => nomatch h)))
set_option maxHeartbeats 4000000 in
set_option maxRecDepth 100000 in
theorem f_Mresult (l : Launch) (D : va_G) (cA : Nat → ClassId) (E : hp_N) (sz : Nat) (g : hp_M) (h : Nat) (hf : fr_Model cA g h) (x : Int32) : Met l yX12_result v_f_Mresult ({ frames := 0, cells := 0, slots := 0, locals := 0 }) (hp_Pc D vwCl (hp_Tl cA) E sz g [.ref h, .int x]) (hp_Qi D vwCl (hp_Tl cA) sz g (fun r _ => r = -1)) 0 0 (hp_A g sz) := by
  refine hp_ofW (cc := cX12_result) (maxL := 2) (ret := (some .int)) (by decide) rfl (Nat.le_of_ble_eq_true rfl) ?_
  intro pp ee ss mm bb mt cd ls cx hsz hw hl
  have hl : lv_has ls 2 [(0, .ref h), (1, .int x)] := hl
  obtain ⟨r, hh, ht, hx⟩ := hf
  refine lv_aload_n cx.1 cx.2.1 dX12_result_0 rfl (lv_at hl 0 rfl) ?_
  refine lv_iconst (v := 0) cx.1 cx.2.1 dX12_result_1 (by decide) ?_
  obtain ⟨F2, eF2⟩ : ∃ F1, F1 = (md0 r).set 0 (.int 0) := ⟨_, rfl⟩
  have lF2 : F2.length = 137 := by rw [eF2, List.length_set]; exact (md0_len r)
  have vF2 : F2[0]? = some (.int 0) := by rw [eF2]; exact fl_self (by rw [(md0_len r)]; decide)
  refine hp_put (C := RX12) (T := TX12) (N := 137) (ci := 12) (fs' := F2) cx hw i_f_Mresult_X12 tyX12_ok nmX12 rfl hh 0 (by decide) m_f_Mresult_f268 rfl  rfl rfl (by rw [(md0_len r)]; decide) eF2.symm dX12_result_2 (fun g1 H locs eg1 hw => ?_)
  have f3 : g1 h = some (.inr (12, F2)) := (by rw [eg1]; exact hp_up_self _ _ _)
  refine lv_aload_n cx.1 cx.2.1 dX12_result_5 rfl (lv_at hl 0 rfl) ?_
  have v4 : F2[86]? = some (.int 0) := by rw [eF2]; exact (fl_ne (by decide)).trans (rfl)
  refine hp_get (C := RX12) (T := TX12) (N := 137) (ci := 12) cx hw i_f_Mresult_X12 rfl f3 86 (by decide) m_f_Mresult_f424 (v := .int 0) v4 dX12_result_6 ?_
  refine lv_if_ne (tgt := 14) cx.1 cx.2.1 dX12_result_9 (by decide) (fun c9_5 => ?_) (fun c9_5 => ?_)
  · exact absurd c9_5 (by decide)
  refine lv_iconst (v := (-1)) cx.1 cx.2.1 dX12_result_12 (by decide) ?_
  exact hp_iret cx hw (rfl) dX12_result_13

def lk_f_Mevent : List Cond := [Cond.fieldLink RX12 268 "WardenHouseModel" "thrown" "I", Cond.fieldLink RX12 424 "WardenHouseModel" "hasRun" "Z"]
def v_f_Mevent : List Cond := .code yX12_event cX12_event 4 (some .int) :: (lk_f_Mevent ++ (wsX120 ++ []))
theorem m_f_Mevent_f268 : Cond.fieldLink RX12 268 "WardenHouseModel" "thrown" "I" ∈ v_f_Mevent := List.mem_cons_of_mem _ (List.mem_append_left _ (List.mem_of_getElem? (i := 0) rfl))
theorem m_f_Mevent_f424 : Cond.fieldLink RX12 424 "WardenHouseModel" "hasRun" "Z" ∈ v_f_Mevent := List.mem_cons_of_mem _ (List.mem_append_left _ (List.mem_of_getElem? (i := 1) rfl))
theorem i_f_Mevent_X12 : ∀ w ∈ wsX120, w ∈ v_f_Mevent := fun _ h => List.mem_cons_of_mem _ (List.mem_append_right _ (List.mem_append_left _ h))
theorem gk_f_Mevent : lk_f_Mevent.all goodWord = true := by decide +kernel
theorem gd_v_f_Mevent : ∀ w ∈ v_f_Mevent, gdW w := fun w h => (List.mem_cons.mp h).elim (fun e => by rw [e]; exact good_of_word rfl) (fun h => (List.mem_append.mp h).elim (fun h => good_of_word (List.all_eq_true.mp gk_f_Mevent w h)) (fun h => (List.mem_append.mp h).elim (gd_wsX120 w) (fun h => nomatch h)))
set_option maxHeartbeats 4000000 in
set_option maxRecDepth 100000 in
theorem f_Mevent (l : Launch) (D : va_G) (cA : Nat → ClassId) (E : hp_N) (sz : Nat) (g : hp_M) (h : Nat) (hf : fr_Model cA g h) (x y : Int32) : Met l yX12_event v_f_Mevent ({ frames := 0, cells := 0, slots := 0, locals := 0 }) (hp_Pc D vwCl (hp_Tl cA) E sz g [.ref h, .int x, .int y]) (hp_Qi D vwCl (hp_Tl cA) sz g (fun r _ => r = -1)) 0 0 (hp_A g sz) := by
  refine hp_ofW (cc := cX12_event) (maxL := 4) (ret := (some .int)) (by decide) rfl (Nat.le_of_ble_eq_true rfl) ?_
  intro pp ee ss mm bb mt cd ls cx hsz hw hl
  have hl : lv_has ls 4 [(0, .ref h), (1, .int x), (2, .int y)] := hl
  obtain ⟨r, hh, ht, hx⟩ := hf
  refine lv_aload_n cx.1 cx.2.1 dX12_event_0 rfl (lv_at hl 0 rfl) ?_
  refine lv_iconst (v := 0) cx.1 cx.2.1 dX12_event_1 (by decide) ?_
  obtain ⟨F2, eF2⟩ : ∃ F1, F1 = (md0 r).set 0 (.int 0) := ⟨_, rfl⟩
  have lF2 : F2.length = 137 := by rw [eF2, List.length_set]; exact (md0_len r)
  have vF2 : F2[0]? = some (.int 0) := by rw [eF2]; exact fl_self (by rw [(md0_len r)]; decide)
  refine hp_put (C := RX12) (T := TX12) (N := 137) (ci := 12) (fs' := F2) cx hw i_f_Mevent_X12 tyX12_ok nmX12 rfl hh 0 (by decide) m_f_Mevent_f268 rfl  rfl rfl (by rw [(md0_len r)]; decide) eF2.symm dX12_event_2 (fun g1 H locs eg1 hw => ?_)
  have f3 : g1 h = some (.inr (12, F2)) := (by rw [eg1]; exact hp_up_self _ _ _)
  refine lv_aload_n cx.1 cx.2.1 dX12_event_5 rfl (lv_at hl 0 rfl) ?_
  have v4 : F2[86]? = some (.int 0) := by rw [eF2]; exact (fl_ne (by decide)).trans (rfl)
  refine hp_get (C := RX12) (T := TX12) (N := 137) (ci := 12) cx hw i_f_Mevent_X12 rfl f3 86 (by decide) m_f_Mevent_f424 (v := .int 0) v4 dX12_event_6 ?_
  refine lv_if_eq (tgt := 47) cx.1 cx.2.1 dX12_event_9 (by decide) (fun c9_5 => ?_) (fun c9_5 => ?_)
  rotate_left
  · exact absurd (by decide) c9_5
  refine lv_iconst (v := 0) cx.1 cx.2.1 dX12_event_47 (by decide) ?_
  refine lv_istore_n (lv' := [(3, .int 0), (0, .ref h), (1, .int x), (2, .int y)]) cx.1 cx.2.1 dX12_event_48 rfl hl (by decide) rfl (fun ls hl => ?_)
  refine lv_iload_n cx.1 cx.2.1 dX12_event_49 rfl (lv_at hl 0 rfl) ?_
  refine lv_if_eq (tgt := 66) cx.1 cx.2.1 dX12_event_50 (by decide) (fun c50_6 => ?_) (fun c50_6 => ?_)
  rotate_left
  · exact absurd (by decide) c50_6
  refine lv_iconst (v := (-1)) cx.1 cx.2.1 dX12_event_66 (by decide) ?_
  exact hp_iret cx hw (rfl) dX12_event_67

def lk_f_Mthread : List Cond := [Cond.fieldLink RX12 268 "WardenHouseModel" "thrown" "I", Cond.fieldLink RX12 424 "WardenHouseModel" "hasRun" "Z"]
def v_f_Mthread : List Cond := .code yX12_thread cX12_thread 3 (some .int) :: (lk_f_Mthread ++ (wsX120 ++ []))
theorem m_f_Mthread_f268 : Cond.fieldLink RX12 268 "WardenHouseModel" "thrown" "I" ∈ v_f_Mthread := List.mem_cons_of_mem _ (List.mem_append_left _ (List.mem_of_getElem? (i := 0) rfl))
theorem m_f_Mthread_f424 : Cond.fieldLink RX12 424 "WardenHouseModel" "hasRun" "Z" ∈ v_f_Mthread := List.mem_cons_of_mem _ (List.mem_append_left _ (List.mem_of_getElem? (i := 1) rfl))
theorem i_f_Mthread_X12 : ∀ w ∈ wsX120, w ∈ v_f_Mthread := fun _ h => List.mem_cons_of_mem _ (List.mem_append_right _ (List.mem_append_left _ h))
theorem gk_f_Mthread : lk_f_Mthread.all goodWord = true := by decide +kernel
theorem gd_v_f_Mthread : ∀ w ∈ v_f_Mthread, gdW w := fun w h => (List.mem_cons.mp h).elim (fun e => by rw [e]; exact good_of_word rfl) (fun h => (List.mem_append.mp h).elim (fun h => good_of_word (List.all_eq_true.mp gk_f_Mthread w h)) (fun h => (List.mem_append.mp h).elim (gd_wsX120 w) (fun h => nomatch h)))
set_option maxHeartbeats 4000000 in
set_option maxRecDepth 100000 in
theorem f_Mthread (l : Launch) (D : va_G) (cA : Nat → ClassId) (E : hp_N) (sz : Nat) (g : hp_M) (h : Nat) (hf : fr_Model cA g h) (x y : Int32) : Met l yX12_thread v_f_Mthread ({ frames := 0, cells := 0, slots := 0, locals := 0 }) (hp_Pc D vwCl (hp_Tl cA) E sz g [.ref h, .int x, .int y]) (hp_Qi D vwCl (hp_Tl cA) sz g (fun r _ => r = -1)) 0 0 (hp_A g sz) := by
  refine hp_ofW (cc := cX12_thread) (maxL := 3) (ret := (some .int)) (by decide) rfl (Nat.le_of_ble_eq_true rfl) ?_
  intro pp ee ss mm bb mt cd ls cx hsz hw hl
  have hl : lv_has ls 3 [(0, .ref h), (1, .int x), (2, .int y)] := hl
  obtain ⟨r, hh, ht, hx⟩ := hf
  refine lv_aload_n cx.1 cx.2.1 dX12_thread_0 rfl (lv_at hl 0 rfl) ?_
  refine lv_iconst (v := 0) cx.1 cx.2.1 dX12_thread_1 (by decide) ?_
  obtain ⟨F2, eF2⟩ : ∃ F1, F1 = (md0 r).set 0 (.int 0) := ⟨_, rfl⟩
  have lF2 : F2.length = 137 := by rw [eF2, List.length_set]; exact (md0_len r)
  have vF2 : F2[0]? = some (.int 0) := by rw [eF2]; exact fl_self (by rw [(md0_len r)]; decide)
  refine hp_put (C := RX12) (T := TX12) (N := 137) (ci := 12) (fs' := F2) cx hw i_f_Mthread_X12 tyX12_ok nmX12 rfl hh 0 (by decide) m_f_Mthread_f268 rfl  rfl rfl (by rw [(md0_len r)]; decide) eF2.symm dX12_thread_2 (fun g1 H locs eg1 hw => ?_)
  have f3 : g1 h = some (.inr (12, F2)) := (by rw [eg1]; exact hp_up_self _ _ _)
  refine lv_aload_n cx.1 cx.2.1 dX12_thread_5 rfl (lv_at hl 0 rfl) ?_
  have v4 : F2[86]? = some (.int 0) := by rw [eF2]; exact (fl_ne (by decide)).trans (rfl)
  refine hp_get (C := RX12) (T := TX12) (N := 137) (ci := 12) cx hw i_f_Mthread_X12 rfl f3 86 (by decide) m_f_Mthread_f424 (v := .int 0) v4 dX12_thread_6 ?_
  refine lv_if_eq (tgt := 28) cx.1 cx.2.1 dX12_thread_9 (by decide) (fun c9_5 => ?_) (fun c9_5 => ?_)
  rotate_left
  · exact absurd (by decide) c9_5
  refine lv_iconst (v := (-1)) cx.1 cx.2.1 dX12_thread_28 (by decide) ?_
  exact hp_iret cx hw (rfl) dX12_thread_29

def lk_f_Mcontext : List Cond := [Cond.fieldLink RX12 268 "WardenHouseModel" "thrown" "I", Cond.fieldLink RX12 424 "WardenHouseModel" "hasRun" "Z"]
def v_f_Mcontext : List Cond := .code yX12_context cX12_context 4 (some .int) :: (lk_f_Mcontext ++ (wsX120 ++ []))
theorem m_f_Mcontext_f268 : Cond.fieldLink RX12 268 "WardenHouseModel" "thrown" "I" ∈ v_f_Mcontext := List.mem_cons_of_mem _ (List.mem_append_left _ (List.mem_of_getElem? (i := 0) rfl))
theorem m_f_Mcontext_f424 : Cond.fieldLink RX12 424 "WardenHouseModel" "hasRun" "Z" ∈ v_f_Mcontext := List.mem_cons_of_mem _ (List.mem_append_left _ (List.mem_of_getElem? (i := 1) rfl))
theorem i_f_Mcontext_X12 : ∀ w ∈ wsX120, w ∈ v_f_Mcontext := fun _ h => List.mem_cons_of_mem _ (List.mem_append_right _ (List.mem_append_left _ h))
theorem gk_f_Mcontext : lk_f_Mcontext.all goodWord = true := by decide +kernel
theorem gd_v_f_Mcontext : ∀ w ∈ v_f_Mcontext, gdW w := fun w h => (List.mem_cons.mp h).elim (fun e => by rw [e]; exact good_of_word rfl) (fun h => (List.mem_append.mp h).elim (fun h => good_of_word (List.all_eq_true.mp gk_f_Mcontext w h)) (fun h => (List.mem_append.mp h).elim (gd_wsX120 w) (fun h => nomatch h)))
set_option maxHeartbeats 4000000 in
set_option maxRecDepth 100000 in
theorem f_Mcontext (l : Launch) (D : va_G) (cA : Nat → ClassId) (E : hp_N) (sz : Nat) (g : hp_M) (h : Nat) (hf : fr_Model cA g h) (x y : Int32) : Met l yX12_context v_f_Mcontext ({ frames := 0, cells := 0, slots := 0, locals := 0 }) (hp_Pc D vwCl (hp_Tl cA) E sz g [.ref h, .int x, .int y]) (hp_Qi D vwCl (hp_Tl cA) sz g (fun r _ => r = -1)) 0 0 (hp_A g sz) := by
  refine hp_ofW (cc := cX12_context) (maxL := 4) (ret := (some .int)) (by decide) rfl (Nat.le_of_ble_eq_true rfl) ?_
  intro pp ee ss mm bb mt cd ls cx hsz hw hl
  have hl : lv_has ls 4 [(0, .ref h), (1, .int x), (2, .int y)] := hl
  obtain ⟨r, hh, ht, hx⟩ := hf
  refine lv_aload_n cx.1 cx.2.1 dX12_context_0 rfl (lv_at hl 0 rfl) ?_
  refine lv_iconst (v := 0) cx.1 cx.2.1 dX12_context_1 (by decide) ?_
  obtain ⟨F2, eF2⟩ : ∃ F1, F1 = (md0 r).set 0 (.int 0) := ⟨_, rfl⟩
  have lF2 : F2.length = 137 := by rw [eF2, List.length_set]; exact (md0_len r)
  have vF2 : F2[0]? = some (.int 0) := by rw [eF2]; exact fl_self (by rw [(md0_len r)]; decide)
  refine hp_put (C := RX12) (T := TX12) (N := 137) (ci := 12) (fs' := F2) cx hw i_f_Mcontext_X12 tyX12_ok nmX12 rfl hh 0 (by decide) m_f_Mcontext_f268 rfl  rfl rfl (by rw [(md0_len r)]; decide) eF2.symm dX12_context_2 (fun g1 H locs eg1 hw => ?_)
  have f3 : g1 h = some (.inr (12, F2)) := (by rw [eg1]; exact hp_up_self _ _ _)
  refine lv_aload_n cx.1 cx.2.1 dX12_context_5 rfl (lv_at hl 0 rfl) ?_
  have v4 : F2[86]? = some (.int 0) := by rw [eF2]; exact (fl_ne (by decide)).trans (rfl)
  refine hp_get (C := RX12) (T := TX12) (N := 137) (ci := 12) cx hw i_f_Mcontext_X12 rfl f3 86 (by decide) m_f_Mcontext_f424 (v := .int 0) v4 dX12_context_6 ?_
  refine lv_if_eq (tgt := 28) cx.1 cx.2.1 dX12_context_9 (by decide) (fun c9_5 => ?_) (fun c9_5 => ?_)
  rotate_left
  · exact absurd (by decide) c9_5
  refine lv_iconst (v := (-1)) cx.1 cx.2.1 dX12_context_28 (by decide) ?_
  exact hp_iret cx hw (rfl) dX12_context_29

def lk_f_Mend : List Cond := [Cond.fieldLink RX12 268 "WardenHouseModel" "thrown" "I", Cond.fieldLink RX12 271 "WardenHouseModel" "taped" "I", Cond.methodLink RX12 274 yX12_in, Cond.static yX12_in, Cond.initialized RX12]
def v_f_Mend : List Cond := .code yX12_end cX12_end 2 (some .boolean) :: (lk_f_Mend ++ (wsX120 ++ (v_k_in ++ [])))
theorem m_f_Mend_f268 : Cond.fieldLink RX12 268 "WardenHouseModel" "thrown" "I" ∈ v_f_Mend := List.mem_cons_of_mem _ (List.mem_append_left _ (List.mem_of_getElem? (i := 0) rfl))
theorem m_f_Mend_f271 : Cond.fieldLink RX12 271 "WardenHouseModel" "taped" "I" ∈ v_f_Mend := List.mem_cons_of_mem _ (List.mem_append_left _ (List.mem_of_getElem? (i := 1) rfl))
theorem m_f_Mend_l274 : Cond.methodLink RX12 274 yX12_in ∈ v_f_Mend := List.mem_cons_of_mem _ (List.mem_append_left _ (List.mem_of_getElem? (i := 2) rfl))
theorem m_f_Mend_j274 : Cond.static yX12_in ∈ v_f_Mend := List.mem_cons_of_mem _ (List.mem_append_left _ (List.mem_of_getElem? (i := 3) rfl))
theorem m_f_Mend_z12 : Cond.initialized RX12 ∈ v_f_Mend := List.mem_cons_of_mem _ (List.mem_append_left _ (List.mem_of_getElem? (i := 4) rfl))
theorem i_f_Mend_X12 : ∀ w ∈ wsX120, w ∈ v_f_Mend := fun _ h => List.mem_cons_of_mem _ (List.mem_append_right _ (List.mem_append_left _ h))
theorem j_f_Mend_v_k_in : ∀ w ∈ v_k_in, w ∈ v_f_Mend := fun _ h => List.mem_cons_of_mem _ (List.mem_append_right _ (List.mem_append_right _ (List.mem_append_left _ h)))
theorem gk_f_Mend : lk_f_Mend.all goodWord = true := by decide +kernel
theorem gd_v_f_Mend : ∀ w ∈ v_f_Mend, gdW w := fun w h => (List.mem_cons.mp h).elim (fun e => by rw [e]; exact good_of_word rfl) (fun h => (List.mem_append.mp h).elim (fun h => good_of_word (List.all_eq_true.mp gk_f_Mend w h)) (fun h => (List.mem_append.mp h).elim (gd_wsX120 w) (fun h => (List.mem_append.mp h).elim (gd_v_k_in w) (fun h => nomatch h))))
theorem g_f_Mend_274_v_k_in : GoodIn v_f_Mend (wsS RX12 274 yX12_in v_k_in) := goodIn_app (fun w h => (fun h => (List.mem_cons.mp h).elim (fun e => by rw [e]; exact ⟨m_f_Mend_l274, good_of_word rfl⟩) (fun h => (List.mem_cons.mp h).elim (fun e => by rw [e]; exact ⟨m_f_Mend_j274, good_of_word rfl⟩) (fun h => (List.mem_cons.mp h).elim (fun e => by rw [e]; exact ⟨m_f_Mend_z12, good_of_word rfl⟩) (fun h => nomatch h)))) h) (fun w h => ⟨j_f_Mend_v_k_in w h, gd_v_k_in w h⟩)
set_option maxHeartbeats 4000000 in
set_option maxRecDepth 100000 in
theorem f_Mend (l : Launch) (D : va_G) (cA : Nat → ClassId) (E : hp_N) (sz : Nat) (g : hp_M) (h : Nat) (hf : fr_Model cA g h) (x : Int32) : Met l yX12_end v_f_Mend ({ frames := 1, cells := 0, slots := 0, locals := 40 }) (hp_Pc D vwCl (hp_Tl cA) E sz g [.ref h, .int x]) (hp_Qi D vwCl (hp_Tl cA) sz g (fun r _ => (¬ (¬ x.toInt64 < 0 ∧ ¬ ((0 : Int32).toInt64) < x.toInt64) ∧ r = 0) ∨ ((¬ x.toInt64 < 0 ∧ ¬ ((0 : Int32).toInt64) < x.toInt64) ∧ r = 1))) 0 0 (hp_A g sz) := by
  refine hp_ofW (cc := cX12_end) (maxL := 2) (ret := (some .boolean)) (by decide) rfl (Nat.le_of_ble_eq_true rfl) ?_
  intro pp ee ss mm bb mt cd ls cx hsz hw hl
  have hl : lv_has ls 2 [(0, .ref h), (1, .int x)] := hl
  obtain ⟨r, hh, ht, hx⟩ := hf
  refine lv_aload_n cx.1 cx.2.1 dX12_end_0 rfl (lv_at hl 0 rfl) ?_
  refine lv_iconst (v := 0) cx.1 cx.2.1 dX12_end_1 (by decide) ?_
  obtain ⟨F2, eF2⟩ : ∃ F1, F1 = (md0 r).set 0 (.int 0) := ⟨_, rfl⟩
  have lF2 : F2.length = 137 := by rw [eF2, List.length_set]; exact (md0_len r)
  have vF2 : F2[0]? = some (.int 0) := by rw [eF2]; exact fl_self (by rw [(md0_len r)]; decide)
  refine hp_put (C := RX12) (T := TX12) (N := 137) (ci := 12) (fs' := F2) cx hw i_f_Mend_X12 tyX12_ok nmX12 rfl hh 0 (by decide) m_f_Mend_f268 rfl  rfl rfl (by rw [(md0_len r)]; decide) eF2.symm dX12_end_2 (fun g1 H locs eg1 hw => ?_)
  have f3 : g1 h = some (.inr (12, F2)) := (by rw [eg1]; exact hp_up_self _ _ _)
  refine lv_iload_n cx.1 cx.2.1 dX12_end_5 rfl (lv_at hl 1 rfl) ?_
  refine lv_i2l (v := (x.toInt64)) cx.1 cx.2.1 dX12_end_6 rfl ?_
  refine lv_lconst (v := 0) cx.1 cx.2.1 dX12_end_7 (by decide) ?_
  refine lv_aload_n cx.1 cx.2.1 dX12_end_8 rfl (lv_at hl 0 rfl) ?_
  have v4 : F2[2]? = some (.int 0) := by rw [eF2]; exact (fl_ne (by decide)).trans (rfl)
  refine hp_get (C := RX12) (T := TX12) (N := 137) (ci := 12) cx hw i_f_Mend_X12 rfl f3 2 (by decide) m_f_Mend_f271 (v := .int 0) v4 dX12_end_9 ?_
  refine lv_i2l (v := ((0 : Int32).toInt64)) cx.1 cx.2.1 dX12_end_12 rfl ?_
  refine hp_callSi (As := [.long (x.toInt64), .long 0, .long ((0 : Int32).toInt64)]) (rest := []) cx hw (k_in l D cA E _ g1 (x.toInt64) 0 ((0 : Int32).toInt64)) (cwS 3 cx.2.2.2.2.2.1 g_f_Mend_274_v_k_in rfl rfl rfl (by decide +kernel) ⟨Nat.le_of_ble_eq_true rfl, Nat.le_of_ble_eq_true rfl⟩) rfl hl.1 rfl (Nat.le_of_ble_eq_true rfl) dX12_end_13 ⟨Nat.le_of_ble_eq_true rfl, Nat.le_of_ble_eq_true rfl⟩ (fun r6 u5 H locs hp7 hw => ?_)
  obtain ⟨euu5, err6⟩ := hp7
  rw [euu5] at hw
  refine lv_if_ne (tgt := 21) cx.1 cx.2.1 dX12_end_16 (by decide) (fun c16_8 => ?_) (fun c16_8 => ?_)
  · skip
    refine lv_aload_n cx.1 cx.2.1 dX12_end_21 rfl (lv_at hl 0 rfl) ?_
    refine lv_iload_n cx.1 cx.2.1 dX12_end_22 rfl (lv_at hl 1 rfl) ?_
    obtain ⟨F10, eF10⟩ : ∃ F1, F1 = F2.set 2 (.int x) := ⟨_, rfl⟩
    have lF10 : F10.length = 137 := by rw [eF10, List.length_set]; exact lF2
    have vF10 : F10[2]? = some (.int x) := by rw [eF10]; exact fl_self (by rw [lF2]; decide)
    refine hp_put (C := RX12) (T := TX12) (N := 137) (ci := 12) (fs' := F10) cx hw i_f_Mend_X12 tyX12_ok nmX12 rfl f3 2 (by decide) m_f_Mend_f271 rfl  rfl rfl (by rw [lF2]; decide) eF10.symm dX12_end_23 (fun g9 H locs eg9 hw => ?_)
    have f11 : g9 h = some (.inr (12, F10)) := (by rw [eg9]; exact hp_up_self _ _ _)
    refine lv_iconst (v := 1) cx.1 cx.2.1 dX12_end_26 (by decide) ?_
    exact hp_zret cx hw (Or.inr ⟨Classical.not_not.mp fun q => c16_8 (by rw [err6, if_neg q]), rfl⟩) (by decide) dX12_end_27
  · skip
    refine lv_iconst (v := 0) cx.1 cx.2.1 dX12_end_19 (by decide) ?_
    exact hp_zret cx hw (Or.inl ⟨fun q => absurd c16_8 (by rw [err6, if_pos q]; decide), rfl⟩) (by decide) dX12_end_20

def lk_f_Masks : List Cond := [Cond.fieldLink RX12 268 "WardenHouseModel" "thrown" "I", Cond.fieldLink RX12 289 "WardenHouseModel" "fault" "I", Cond.fieldLink RX12 16 "WardenHouseModel" "faultPlace" "I", Cond.fieldLink RX12 271 "WardenHouseModel" "taped" "I", Cond.fieldLink RX12 278 "WardenHouseModel" "size" "I", Cond.fieldLink RX12 382 "WardenHouseModel" "stepsMost" "I", Cond.fieldLink RX12 336 "WardenHouseModel" "to" "I", Cond.methodLink RX12 388 yX12_next, Cond.instanceMethod yX12_next, Cond.selects RX12 yX12_next yX12_next, Cond.initialized RX12, Cond.methodLink RX12 332 yX12_isFine, Cond.instanceMethod yX12_isFine, Cond.selects RX12 yX12_isFine yX12_isFine, Cond.fieldLink RX12 292 "WardenHouseModel" "word" "I", Cond.fieldLink RX12 358 "WardenHouseModel" "name" "J"]
def v_f_Masks : List Cond := .code yX12_asks cX12_asks 8 (some .boolean) :: (lk_f_Masks ++ (wsX120 ++ (v_k_next_end ++ (v_k_isFine1 ++ []))))
theorem m_f_Masks_f268 : Cond.fieldLink RX12 268 "WardenHouseModel" "thrown" "I" ∈ v_f_Masks := List.mem_cons_of_mem _ (List.mem_append_left _ (List.mem_of_getElem? (i := 0) rfl))
theorem m_f_Masks_f289 : Cond.fieldLink RX12 289 "WardenHouseModel" "fault" "I" ∈ v_f_Masks := List.mem_cons_of_mem _ (List.mem_append_left _ (List.mem_of_getElem? (i := 1) rfl))
theorem m_f_Masks_f16 : Cond.fieldLink RX12 16 "WardenHouseModel" "faultPlace" "I" ∈ v_f_Masks := List.mem_cons_of_mem _ (List.mem_append_left _ (List.mem_of_getElem? (i := 2) rfl))
theorem m_f_Masks_f271 : Cond.fieldLink RX12 271 "WardenHouseModel" "taped" "I" ∈ v_f_Masks := List.mem_cons_of_mem _ (List.mem_append_left _ (List.mem_of_getElem? (i := 3) rfl))
theorem m_f_Masks_f278 : Cond.fieldLink RX12 278 "WardenHouseModel" "size" "I" ∈ v_f_Masks := List.mem_cons_of_mem _ (List.mem_append_left _ (List.mem_of_getElem? (i := 4) rfl))
theorem m_f_Masks_f382 : Cond.fieldLink RX12 382 "WardenHouseModel" "stepsMost" "I" ∈ v_f_Masks := List.mem_cons_of_mem _ (List.mem_append_left _ (List.mem_of_getElem? (i := 5) rfl))
theorem m_f_Masks_f336 : Cond.fieldLink RX12 336 "WardenHouseModel" "to" "I" ∈ v_f_Masks := List.mem_cons_of_mem _ (List.mem_append_left _ (List.mem_of_getElem? (i := 6) rfl))
theorem m_f_Masks_l388 : Cond.methodLink RX12 388 yX12_next ∈ v_f_Masks := List.mem_cons_of_mem _ (List.mem_append_left _ (List.mem_of_getElem? (i := 7) rfl))
theorem m_f_Masks_j388 : Cond.instanceMethod yX12_next ∈ v_f_Masks := List.mem_cons_of_mem _ (List.mem_append_left _ (List.mem_of_getElem? (i := 8) rfl))
theorem m_f_Masks_s388 : Cond.selects RX12 yX12_next yX12_next ∈ v_f_Masks := List.mem_cons_of_mem _ (List.mem_append_left _ (List.mem_of_getElem? (i := 9) rfl))
theorem m_f_Masks_z12 : Cond.initialized RX12 ∈ v_f_Masks := List.mem_cons_of_mem _ (List.mem_append_left _ (List.mem_of_getElem? (i := 10) rfl))
theorem m_f_Masks_l332 : Cond.methodLink RX12 332 yX12_isFine ∈ v_f_Masks := List.mem_cons_of_mem _ (List.mem_append_left _ (List.mem_of_getElem? (i := 11) rfl))
theorem m_f_Masks_j332 : Cond.instanceMethod yX12_isFine ∈ v_f_Masks := List.mem_cons_of_mem _ (List.mem_append_left _ (List.mem_of_getElem? (i := 12) rfl))
theorem m_f_Masks_s332 : Cond.selects RX12 yX12_isFine yX12_isFine ∈ v_f_Masks := List.mem_cons_of_mem _ (List.mem_append_left _ (List.mem_of_getElem? (i := 13) rfl))
theorem m_f_Masks_f292 : Cond.fieldLink RX12 292 "WardenHouseModel" "word" "I" ∈ v_f_Masks := List.mem_cons_of_mem _ (List.mem_append_left _ (List.mem_of_getElem? (i := 14) rfl))
theorem m_f_Masks_f358 : Cond.fieldLink RX12 358 "WardenHouseModel" "name" "J" ∈ v_f_Masks := List.mem_cons_of_mem _ (List.mem_append_left _ (List.mem_of_getElem? (i := 15) rfl))
theorem i_f_Masks_X12 : ∀ w ∈ wsX120, w ∈ v_f_Masks := fun _ h => List.mem_cons_of_mem _ (List.mem_append_right _ (List.mem_append_left _ h))
theorem j_f_Masks_v_k_next_end : ∀ w ∈ v_k_next_end, w ∈ v_f_Masks := fun _ h => List.mem_cons_of_mem _ (List.mem_append_right _ (List.mem_append_right _ (List.mem_append_left _ h)))
theorem j_f_Masks_v_k_isFine1 : ∀ w ∈ v_k_isFine1, w ∈ v_f_Masks := fun _ h => List.mem_cons_of_mem _ (List.mem_append_right _ (List.mem_append_right _ (List.mem_append_right _ (List.mem_append_left _ h))))
theorem gk_f_Masks : lk_f_Masks.all goodWord = true := by decide +kernel
theorem gd_v_f_Masks : ∀ w ∈ v_f_Masks, gdW w := fun w h => (List.mem_cons.mp h).elim (fun e => by rw [e]; exact good_of_word rfl) (fun h => (List.mem_append.mp h).elim (fun h => good_of_word (List.all_eq_true.mp gk_f_Masks w h)) (fun h => (List.mem_append.mp h).elim (gd_wsX120 w) (fun h => (List.mem_append.mp h).elim (gd_v_k_next_end w) (fun h => (List.mem_append.mp h).elim (gd_v_k_isFine1 w) (fun h => nomatch h)))))
theorem g_f_Masks_388_v_k_next_end : GoodIn v_f_Masks (wsV RX12 388 RX12 yX12_next v_k_next_end) := goodIn_app (fun w h => (fun h => (List.mem_cons.mp h).elim (fun e => by rw [e]; exact ⟨m_f_Masks_l388, good_of_word rfl⟩) (fun h => (List.mem_cons.mp h).elim (fun e => by rw [e]; exact ⟨m_f_Masks_j388, good_of_word rfl⟩) (fun h => (List.mem_cons.mp h).elim (fun e => by rw [e]; exact ⟨m_f_Masks_s388, good_of_word rfl⟩) (fun h => (List.mem_cons.mp h).elim (fun e => by rw [e]; exact ⟨m_f_Masks_z12, good_of_word rfl⟩) (fun h => nomatch h))))) h) (fun w h => ⟨j_f_Masks_v_k_next_end w h, gd_v_k_next_end w h⟩)
theorem g_f_Masks_332_v_k_isFine1 : GoodIn v_f_Masks (wsV RX12 332 RX12 yX12_isFine v_k_isFine1) := goodIn_app (fun w h => (fun h => (List.mem_cons.mp h).elim (fun e => by rw [e]; exact ⟨m_f_Masks_l332, good_of_word rfl⟩) (fun h => (List.mem_cons.mp h).elim (fun e => by rw [e]; exact ⟨m_f_Masks_j332, good_of_word rfl⟩) (fun h => (List.mem_cons.mp h).elim (fun e => by rw [e]; exact ⟨m_f_Masks_s332, good_of_word rfl⟩) (fun h => (List.mem_cons.mp h).elim (fun e => by rw [e]; exact ⟨m_f_Masks_z12, good_of_word rfl⟩) (fun h => nomatch h))))) h) (fun w h => ⟨j_f_Masks_v_k_isFine1 w h, gd_v_k_isFine1 w h⟩)
set_option maxHeartbeats 4000000 in
set_option maxRecDepth 100000 in
theorem f_Masks (l : Launch) (D : va_G) (cA : Nat → ClassId) (E : hp_N) (sz : Nat) (g : hp_M) (h : Nat) (hf : fr_Model cA g h)  : Met l yX12_asks v_f_Masks ({ frames := 2, cells := 0, slots := 0, locals := 70 }) (hp_Pc D vwCl (hp_Tl cA) E sz g [.ref h]) (hp_Qi D vwCl (hp_Tl cA) sz g (fun r _ => r = 0)) 0 0 (hp_A g sz) := by
  refine hp_ofW (cc := cX12_asks) (maxL := 8) (ret := (some .boolean)) (by decide) rfl (Nat.le_of_ble_eq_true rfl) ?_
  intro pp ee ss mm bb mt cd ls cx hsz hw hl
  have hl : lv_has ls 8 [(0, .ref h)] := hl
  obtain ⟨r, hh, ht, hx⟩ := hf
  refine lv_aload_n cx.1 cx.2.1 dX12_asks_0 rfl (lv_at hl 0 rfl) ?_
  refine lv_iconst (v := 0) cx.1 cx.2.1 dX12_asks_1 (by decide) ?_
  obtain ⟨F2, eF2⟩ : ∃ F1, F1 = (md0 r).set 0 (.int 0) := ⟨_, rfl⟩
  have lF2 : F2.length = 137 := by rw [eF2, List.length_set]; exact (md0_len r)
  have vF2 : F2[0]? = some (.int 0) := by rw [eF2]; exact fl_self (by rw [(md0_len r)]; decide)
  refine hp_put (C := RX12) (T := TX12) (N := 137) (ci := 12) (fs' := F2) cx hw i_f_Masks_X12 tyX12_ok nmX12 rfl hh 0 (by decide) m_f_Masks_f268 rfl  rfl rfl (by rw [(md0_len r)]; decide) eF2.symm dX12_asks_2 (fun g1 H locs eg1 hw => ?_)
  have f3 : g1 h = some (.inr (12, F2)) := (by rw [eg1]; exact hp_up_self _ _ _)
  refine lv_aload_n cx.1 cx.2.1 dX12_asks_5 rfl (lv_at hl 0 rfl) ?_
  have v4 : F2[6]? = some (.int 0) := by rw [eF2]; exact (fl_ne (by decide)).trans (rfl)
  refine hp_get (C := RX12) (T := TX12) (N := 137) (ci := 12) cx hw i_f_Masks_X12 rfl f3 6 (by decide) m_f_Masks_f289 (v := .int 0) v4 dX12_asks_6 ?_
  refine lv_istore_n (lv' := [(1, .int 0), (0, .ref h)]) cx.1 cx.2.1 dX12_asks_9 rfl hl (by decide) rfl (fun ls hl => ?_)
  refine lv_aload_n cx.1 cx.2.1 dX12_asks_10 rfl (lv_at hl 1 rfl) ?_
  have v5 : F2[7]? = some (.int (-1)) := by rw [eF2]; exact (fl_ne (by decide)).trans (rfl)
  refine hp_get (C := RX12) (T := TX12) (N := 137) (ci := 12) cx hw i_f_Masks_X12 rfl f3 7 (by decide) m_f_Masks_f16 (v := .int (-1)) v5 dX12_asks_11 ?_
  refine lv_istore_n (lv' := [(2, .int (-1)), (1, .int 0), (0, .ref h)]) cx.1 cx.2.1 dX12_asks_14 rfl hl (by decide) rfl (fun ls hl => ?_)
  refine lv_aload_n cx.1 cx.2.1 dX12_asks_15 rfl (lv_at hl 2 rfl) ?_
  refine lv_aload_n cx.1 cx.2.1 dX12_asks_16 rfl (lv_at hl 2 rfl) ?_
  have v6 : F2[2]? = some (.int 0) := by rw [eF2]; exact (fl_ne (by decide)).trans (rfl)
  refine hp_get (C := RX12) (T := TX12) (N := 137) (ci := 12) cx hw i_f_Masks_X12 rfl f3 2 (by decide) m_f_Masks_f271 (v := .int 0) v6 dX12_asks_17 ?_
  obtain ⟨F8, eF8⟩ : ∃ F1, F1 = F2.set 4 (.int 0) := ⟨_, rfl⟩
  have lF8 : F8.length = 137 := by rw [eF8, List.length_set]; exact lF2
  have vF8 : F8[4]? = some (.int 0) := by rw [eF8]; exact fl_self (by rw [lF2]; decide)
  refine hp_put (C := RX12) (T := TX12) (N := 137) (ci := 12) (fs' := F8) cx hw i_f_Masks_X12 tyX12_ok nmX12 rfl f3 4 (by decide) m_f_Masks_f278 rfl  rfl rfl (by rw [lF2]; decide) eF8.symm dX12_asks_20 (fun g7 H locs eg7 hw => ?_)
  have f9 : g7 h = some (.inr (12, F8)) := (by rw [eg7]; exact hp_up_self _ _ _)
  refine lv_iconst (v := 0) cx.1 cx.2.1 dX12_asks_23 (by decide) ?_
  refine lv_istore_n (lv' := [(3, .int 0), (2, .int (-1)), (1, .int 0), (0, .ref h)]) cx.1 cx.2.1 dX12_asks_24 rfl hl (by decide) rfl (fun ls hl => ?_)
  refine lv_iload_n cx.1 cx.2.1 dX12_asks_25 rfl (lv_at hl 0 rfl) ?_
  refine lv_aload_n cx.1 cx.2.1 dX12_asks_26 rfl (lv_at hl 3 rfl) ?_
  refine hp_get (C := RX12) (T := TX12) (N := 137) (ci := 12) cx hw i_f_Masks_X12 rfl f9 4 (by decide) m_f_Masks_f278 (v := .int 0) vF8 dX12_asks_27 ?_
  refine lv_icmp_ge (tgt := 51) cx.1 cx.2.1 dX12_asks_30 (by decide) (fun c30_10 => ?_) (fun c30_10 => ?_)
  rotate_left
  · exact absurd (by decide) c30_10
  refine lv_aload_n cx.1 cx.2.1 dX12_asks_51 rfl (lv_at hl 3 rfl) ?_
  refine lv_iconst (v := 0) cx.1 cx.2.1 dX12_asks_52 (by decide) ?_
  obtain ⟨F12, eF12⟩ : ∃ F1, F1 = F8.set 2 (.int 0) := ⟨_, rfl⟩
  have lF12 : F12.length = 137 := by rw [eF12, List.length_set]; exact lF8
  have vF12 : F12[2]? = some (.int 0) := by rw [eF12]; exact fl_self (by rw [lF8]; decide)
  refine hp_put (C := RX12) (T := TX12) (N := 137) (ci := 12) (fs' := F12) cx hw i_f_Masks_X12 tyX12_ok nmX12 rfl f9 2 (by decide) m_f_Masks_f271 rfl  rfl rfl (by rw [lF8]; decide) eF12.symm dX12_asks_53 (fun g11 H locs eg11 hw => ?_)
  have f13 : g11 h = some (.inr (12, F12)) := (by rw [eg11]; exact hp_up_self _ _ _)
  refine lv_aload_n cx.1 cx.2.1 dX12_asks_56 rfl (lv_at hl 3 rfl) ?_
  refine lv_iconst (v := 0) cx.1 cx.2.1 dX12_asks_57 (by decide) ?_
  obtain ⟨F15, eF15⟩ : ∃ F1, F1 = F12.set 6 (.int 0) := ⟨_, rfl⟩
  have lF15 : F15.length = 137 := by rw [eF15, List.length_set]; exact lF12
  have vF15 : F15[6]? = some (.int 0) := by rw [eF15]; exact fl_self (by rw [lF12]; decide)
  refine hp_put (C := RX12) (T := TX12) (N := 137) (ci := 12) (fs' := F15) cx hw i_f_Masks_X12 tyX12_ok nmX12 rfl f13 6 (by decide) m_f_Masks_f289 rfl  rfl rfl (by rw [lF12]; decide) eF15.symm dX12_asks_58 (fun g14 H locs eg14 hw => ?_)
  have f16 : g14 h = some (.inr (12, F15)) := (by rw [eg14]; exact hp_up_self _ _ _)
  refine lv_aload_n cx.1 cx.2.1 dX12_asks_61 rfl (lv_at hl 3 rfl) ?_
  refine lv_iconst (v := 5) cx.1 cx.2.1 dX12_asks_62 (by decide) ?_
  obtain ⟨F18, eF18⟩ : ∃ F1, F1 = F15.set 16 (.int 5) := ⟨_, rfl⟩
  have lF18 : F18.length = 137 := by rw [eF18, List.length_set]; exact lF15
  have vF18 : F18[16]? = some (.int 5) := by rw [eF18]; exact fl_self (by rw [lF15]; decide)
  refine hp_put (C := RX12) (T := TX12) (N := 137) (ci := 12) (fs' := F18) cx hw i_f_Masks_X12 tyX12_ok nmX12 rfl f16 16 (by decide) m_f_Masks_f382 rfl  rfl rfl (by rw [lF15]; decide) eF18.symm dX12_asks_63 (fun g17 H locs eg17 hw => ?_)
  have f19 : g17 h = some (.inr (12, F18)) := (by rw [eg17]; exact hp_up_self _ _ _)
  refine lv_aload_n cx.1 cx.2.1 dX12_asks_66 rfl (lv_at hl 3 rfl) ?_
  refine lv_iconst (v := 0) cx.1 cx.2.1 dX12_asks_67 (by decide) ?_
  obtain ⟨F21, eF21⟩ : ∃ F1, F1 = F18.set 10 (.int 0) := ⟨_, rfl⟩
  have lF21 : F21.length = 137 := by rw [eF21, List.length_set]; exact lF18
  have vF21 : F21[10]? = some (.int 0) := by rw [eF21]; exact fl_self (by rw [lF18]; decide)
  refine hp_put (C := RX12) (T := TX12) (N := 137) (ci := 12) (fs' := F21) cx hw i_f_Masks_X12 tyX12_ok nmX12 rfl f19 10 (by decide) m_f_Masks_f336 rfl  rfl rfl (by rw [lF18]; decide) eF21.symm dX12_asks_68 (fun g20 H locs eg20 hw => ?_)
  have f22 : g20 h = some (.inr (12, F21)) := (by rw [eg20]; exact hp_up_self _ _ _)
  refine lv_aload_n cx.1 cx.2.1 dX12_asks_71 rfl (lv_at hl 3 rfl) ?_
  have v23 : F18[6]? = some (.int 0) := by rw [eF18]; exact (fl_ne (by decide)).trans vF15
  have v24 : F21[6]? = some (.int 0) := by rw [eF21]; exact (fl_ne (by decide)).trans v23
  have v25 : F12[4]? = some (.int 0) := by rw [eF12]; exact (fl_ne (by decide)).trans vF8
  have v26 : F15[4]? = some (.int 0) := by rw [eF15]; exact (fl_ne (by decide)).trans v25
  have v27 : F18[4]? = some (.int 0) := by rw [eF18]; exact (fl_ne (by decide)).trans v26
  have v28 : F21[4]? = some (.int 0) := by rw [eF21]; exact (fl_ne (by decide)).trans v27
  refine hp_callVv (As := []) (rest := []) cx hw (k_next_end l D cA E _ g20 0 0 h F21 lF21 f22 v24 v28 vF21 (by decide)) (cwV 0 cx.2.2.2.2.2.1 g_f_Masks_388_v_k_next_end rfl rfl rfl (by decide +kernel) ⟨Nat.le_of_ble_eq_true rfl, Nat.le_of_ble_eq_true rfl⟩) f22 rfl rfl hl.1 rfl (Nat.le_of_ble_eq_true rfl) dX12_asks_72 ⟨Nat.le_of_ble_eq_true rfl, Nat.le_of_ble_eq_true rfl⟩ (fun u29 H locs hp31 hw => ?_)
  obtain ⟨F32, eu29, lF32, vF32_0, vF32_1, kF32⟩ := hp31
  have f33 : u29 h = some (.inr (12, F32)) := (by rw [eu29]; exact hp_up_self _ _ _)
  refine lv_aload_n cx.1 cx.2.1 dX12_asks_75 rfl (lv_at hl 3 rfl) ?_
  have v34 : F32[6]? = some (.int 0) := (kF32 6 (by decide)).trans v24
  refine hp_callVi (As := []) (rest := []) cx hw (k_isFine1 l D cA E _ u29 h F32 lF32 f33 v34) (cwV 0 cx.2.2.2.2.2.1 g_f_Masks_332_v_k_isFine1 rfl rfl rfl (by decide +kernel) ⟨Nat.le_of_ble_eq_true rfl, Nat.le_of_ble_eq_true rfl⟩) f33 rfl rfl hl.1 rfl (Nat.le_of_ble_eq_true rfl) dX12_asks_76 ⟨Nat.le_of_ble_eq_true rfl, Nat.le_of_ble_eq_true rfl⟩ (fun r36 u35 H locs hp37 hw => ?_)
  obtain ⟨euu35, err36⟩ := hp37
  rw [euu35] at hw
  subst err36
  refine lv_if_eq (tgt := 94) cx.1 cx.2.1 dX12_asks_79 (by decide) (fun c79_38 => ?_) (fun c79_38 => ?_)
  · exact absurd c79_38 (by decide)
  refine lv_aload_n cx.1 cx.2.1 dX12_asks_82 rfl (lv_at hl 3 rfl) ?_
  refine hp_get (C := RX12) (T := TX12) (N := 137) (ci := 12) cx hw i_f_Masks_X12 rfl f33 8 (by decide) m_f_Masks_f292 (v := .int 0) vF32_0 dX12_asks_83 ?_
  refine lv_iconst (v := 1) cx.1 cx.2.1 dX12_asks_86 (by decide) ?_
  refine lv_icmp_ne (tgt := 94) cx.1 cx.2.1 dX12_asks_87 (by decide) (fun c87_39 => ?_) (fun c87_39 => ?_)
  rotate_left
  · exact absurd c87_39 (by decide)
  refine lv_iconst (v := 0) cx.1 cx.2.1 dX12_asks_94 (by decide) ?_
  refine lv_istore_n (lv' := [(3, .int 0), (2, .int (-1)), (1, .int 0), (0, .ref h)]) cx.1 cx.2.1 dX12_asks_95 rfl hl (by decide) rfl (fun ls hl => ?_)
  refine lv_aload_n cx.1 cx.2.1 dX12_asks_96 rfl (lv_at hl 3 rfl) ?_
  have v40 : F2[12]? = some (.long 0) := by rw [eF2]; exact (fl_ne (by decide)).trans (rfl)
  have v41 : F8[12]? = some (.long 0) := by rw [eF8]; exact (fl_ne (by decide)).trans v40
  have v42 : F12[12]? = some (.long 0) := by rw [eF12]; exact (fl_ne (by decide)).trans v41
  have v43 : F15[12]? = some (.long 0) := by rw [eF15]; exact (fl_ne (by decide)).trans v42
  have v44 : F18[12]? = some (.long 0) := by rw [eF18]; exact (fl_ne (by decide)).trans v43
  have v45 : F21[12]? = some (.long 0) := by rw [eF21]; exact (fl_ne (by decide)).trans v44
  have v46 : F32[12]? = some (.long 0) := (kF32 12 (by decide)).trans v45
  refine hp_get (C := RX12) (T := TX12) (N := 137) (ci := 12) cx hw i_f_Masks_X12 rfl f33 12 (by decide) m_f_Masks_f358 (v := .long 0) v46 dX12_asks_97 ?_
  refine lv_lstore (lv' := [(4, .long 0), (3, .int 0), (2, .int (-1)), (1, .int 0), (0, .ref h)]) cx.1 cx.2.1 dX12_asks_100 hl (by decide) rfl (fun ls hl => ?_)
  refine lv_iload_n cx.1 cx.2.1 dX12_asks_102 rfl (lv_at hl 1 rfl) ?_
  refine lv_if_eq (tgt := 138) cx.1 cx.2.1 dX12_asks_103 (by decide) (fun c103_47 => ?_) (fun c103_47 => ?_)
  rotate_left
  · exact absurd (by decide) c103_47
  refine lv_iload_n cx.1 cx.2.1 dX12_asks_138 rfl (lv_at hl 1 rfl) ?_
  refine lv_if_eq (tgt := 206) cx.1 cx.2.1 dX12_asks_139 (by decide) (fun c139_48 => ?_) (fun c139_48 => ?_)
  rotate_left
  · exact absurd (by decide) c139_48
  refine lv_aload_n cx.1 cx.2.1 dX12_asks_206 rfl (lv_at hl 4 rfl) ?_
  refine lv_iload_n cx.1 cx.2.1 dX12_asks_207 rfl (lv_at hl 3 rfl) ?_
  obtain ⟨F50, eF50⟩ : ∃ F1, F1 = F32.set 6 (.int 0) := ⟨_, rfl⟩
  have lF50 : F50.length = 137 := by rw [eF50, List.length_set]; exact lF32
  have vF50 : F50[6]? = some (.int 0) := by rw [eF50]; exact fl_self (by rw [lF32]; decide)
  refine hp_put (C := RX12) (T := TX12) (N := 137) (ci := 12) (fs' := F50) cx hw i_f_Masks_X12 tyX12_ok nmX12 rfl f33 6 (by decide) m_f_Masks_f289 rfl  rfl rfl (by rw [lF32]; decide) eF50.symm dX12_asks_208 (fun g49 H locs eg49 hw => ?_)
  have f51 : g49 h = some (.inr (12, F50)) := (by rw [eg49]; exact hp_up_self _ _ _)
  refine lv_aload_n cx.1 cx.2.1 dX12_asks_211 rfl (lv_at hl 4 rfl) ?_
  refine lv_iload_n cx.1 cx.2.1 dX12_asks_212 rfl (lv_at hl 2 rfl) ?_
  obtain ⟨F53, eF53⟩ : ∃ F1, F1 = F50.set 7 (.int (-1)) := ⟨_, rfl⟩
  have lF53 : F53.length = 137 := by rw [eF53, List.length_set]; exact lF50
  have vF53 : F53[7]? = some (.int (-1)) := by rw [eF53]; exact fl_self (by rw [lF50]; decide)
  refine hp_put (C := RX12) (T := TX12) (N := 137) (ci := 12) (fs' := F53) cx hw i_f_Masks_X12 tyX12_ok nmX12 rfl f51 7 (by decide) m_f_Masks_f16 rfl  rfl rfl (by rw [lF50]; decide) eF53.symm dX12_asks_213 (fun g52 H locs eg52 hw => ?_)
  have f54 : g52 h = some (.inr (12, F53)) := (by rw [eg52]; exact hp_up_self _ _ _)
  refine lv_iload_n cx.1 cx.2.1 dX12_asks_216 rfl (lv_at hl 1 rfl) ?_
  exact hp_zret cx hw (rfl) (by decide) dX12_asks_217

def lk_f_Mprogram : List Cond := [Cond.fieldLink RX12 271 "WardenHouseModel" "taped" "I", Cond.fieldLink RX12 278 "WardenHouseModel" "size" "I", Cond.fieldLink RX12 424 "WardenHouseModel" "hasRun" "Z", Cond.fieldLink RX12 428 "WardenHouseModel" "hasProgram" "Z", Cond.fieldLink RX12 289 "WardenHouseModel" "fault" "I", Cond.fieldLink RX12 16 "WardenHouseModel" "faultPlace" "I", Cond.fieldLink RX12 411 "WardenHouseModel" "grants" "I", Cond.fieldLink RX12 431 "WardenHouseModel" "limits" "I", Cond.fieldLink RX12 434 "WardenHouseModel" "modules" "I", Cond.fieldLink RX12 437 "WardenHouseModel" "units" "I", Cond.fieldLink RX12 440 "WardenHouseModel" "askings" "I", Cond.fieldLink RX12 443 "WardenHouseModel" "variables" "I", Cond.fieldLink RX12 446 "WardenHouseModel" "scoped" "I", Cond.fieldLink RX12 449 "WardenHouseModel" "numbers" "I", Cond.fieldLink RX12 452 "WardenHouseModel" "names" "I", Cond.fieldLink RX12 455 "WardenHouseModel" "parts" "I", Cond.fieldLink RX12 458 "WardenHouseModel" "es" "I", Cond.fieldLink RX12 418 "WardenHouseModel" "nodes" "I", Cond.fieldLink RX12 421 "WardenHouseModel" "unit" "I", Cond.fieldLink RX12 382 "WardenHouseModel" "stepsMost" "I", Cond.fieldLink RX12 336 "WardenHouseModel" "to" "I", Cond.methodLink RX12 388 yX12_next, Cond.instanceMethod yX12_next, Cond.selects RX12 yX12_next yX12_next, Cond.initialized RX12, Cond.methodLink RX12 461 yX12_readAll, Cond.instanceMethod yX12_readAll, Cond.selects RX12 yX12_readAll yX12_readAll, Cond.methodLink RX12 332 yX12_isFine, Cond.instanceMethod yX12_isFine, Cond.selects RX12 yX12_isFine yX12_isFine, Cond.fieldLink RX12 268 "WardenHouseModel" "thrown" "I"]
def v_f_Mprogram : List Cond := .code yX12_program cX12_program 2 (some .int) :: (lk_f_Mprogram ++ (wsX120 ++ (v_k_next_end ++ (v_k_readAll_end ++ (v_k_isFine0 ++ [])))))
theorem m_f_Mprogram_f271 : Cond.fieldLink RX12 271 "WardenHouseModel" "taped" "I" ∈ v_f_Mprogram := List.mem_cons_of_mem _ (List.mem_append_left _ (List.mem_of_getElem? (i := 0) rfl))
theorem m_f_Mprogram_f278 : Cond.fieldLink RX12 278 "WardenHouseModel" "size" "I" ∈ v_f_Mprogram := List.mem_cons_of_mem _ (List.mem_append_left _ (List.mem_of_getElem? (i := 1) rfl))
theorem m_f_Mprogram_f424 : Cond.fieldLink RX12 424 "WardenHouseModel" "hasRun" "Z" ∈ v_f_Mprogram := List.mem_cons_of_mem _ (List.mem_append_left _ (List.mem_of_getElem? (i := 2) rfl))
theorem m_f_Mprogram_f428 : Cond.fieldLink RX12 428 "WardenHouseModel" "hasProgram" "Z" ∈ v_f_Mprogram := List.mem_cons_of_mem _ (List.mem_append_left _ (List.mem_of_getElem? (i := 3) rfl))
theorem m_f_Mprogram_f289 : Cond.fieldLink RX12 289 "WardenHouseModel" "fault" "I" ∈ v_f_Mprogram := List.mem_cons_of_mem _ (List.mem_append_left _ (List.mem_of_getElem? (i := 4) rfl))
theorem m_f_Mprogram_f16 : Cond.fieldLink RX12 16 "WardenHouseModel" "faultPlace" "I" ∈ v_f_Mprogram := List.mem_cons_of_mem _ (List.mem_append_left _ (List.mem_of_getElem? (i := 5) rfl))
theorem m_f_Mprogram_f411 : Cond.fieldLink RX12 411 "WardenHouseModel" "grants" "I" ∈ v_f_Mprogram := List.mem_cons_of_mem _ (List.mem_append_left _ (List.mem_of_getElem? (i := 6) rfl))
theorem m_f_Mprogram_f431 : Cond.fieldLink RX12 431 "WardenHouseModel" "limits" "I" ∈ v_f_Mprogram := List.mem_cons_of_mem _ (List.mem_append_left _ (List.mem_of_getElem? (i := 7) rfl))
theorem m_f_Mprogram_f434 : Cond.fieldLink RX12 434 "WardenHouseModel" "modules" "I" ∈ v_f_Mprogram := List.mem_cons_of_mem _ (List.mem_append_left _ (List.mem_of_getElem? (i := 8) rfl))
theorem m_f_Mprogram_f437 : Cond.fieldLink RX12 437 "WardenHouseModel" "units" "I" ∈ v_f_Mprogram := List.mem_cons_of_mem _ (List.mem_append_left _ (List.mem_of_getElem? (i := 9) rfl))
theorem m_f_Mprogram_f440 : Cond.fieldLink RX12 440 "WardenHouseModel" "askings" "I" ∈ v_f_Mprogram := List.mem_cons_of_mem _ (List.mem_append_left _ (List.mem_of_getElem? (i := 10) rfl))
theorem m_f_Mprogram_f443 : Cond.fieldLink RX12 443 "WardenHouseModel" "variables" "I" ∈ v_f_Mprogram := List.mem_cons_of_mem _ (List.mem_append_left _ (List.mem_of_getElem? (i := 11) rfl))
theorem m_f_Mprogram_f446 : Cond.fieldLink RX12 446 "WardenHouseModel" "scoped" "I" ∈ v_f_Mprogram := List.mem_cons_of_mem _ (List.mem_append_left _ (List.mem_of_getElem? (i := 12) rfl))
theorem m_f_Mprogram_f449 : Cond.fieldLink RX12 449 "WardenHouseModel" "numbers" "I" ∈ v_f_Mprogram := List.mem_cons_of_mem _ (List.mem_append_left _ (List.mem_of_getElem? (i := 13) rfl))
theorem m_f_Mprogram_f452 : Cond.fieldLink RX12 452 "WardenHouseModel" "names" "I" ∈ v_f_Mprogram := List.mem_cons_of_mem _ (List.mem_append_left _ (List.mem_of_getElem? (i := 14) rfl))
theorem m_f_Mprogram_f455 : Cond.fieldLink RX12 455 "WardenHouseModel" "parts" "I" ∈ v_f_Mprogram := List.mem_cons_of_mem _ (List.mem_append_left _ (List.mem_of_getElem? (i := 15) rfl))
theorem m_f_Mprogram_f458 : Cond.fieldLink RX12 458 "WardenHouseModel" "es" "I" ∈ v_f_Mprogram := List.mem_cons_of_mem _ (List.mem_append_left _ (List.mem_of_getElem? (i := 16) rfl))
theorem m_f_Mprogram_f418 : Cond.fieldLink RX12 418 "WardenHouseModel" "nodes" "I" ∈ v_f_Mprogram := List.mem_cons_of_mem _ (List.mem_append_left _ (List.mem_of_getElem? (i := 17) rfl))
theorem m_f_Mprogram_f421 : Cond.fieldLink RX12 421 "WardenHouseModel" "unit" "I" ∈ v_f_Mprogram := List.mem_cons_of_mem _ (List.mem_append_left _ (List.mem_of_getElem? (i := 18) rfl))
theorem m_f_Mprogram_f382 : Cond.fieldLink RX12 382 "WardenHouseModel" "stepsMost" "I" ∈ v_f_Mprogram := List.mem_cons_of_mem _ (List.mem_append_left _ (List.mem_of_getElem? (i := 19) rfl))
theorem m_f_Mprogram_f336 : Cond.fieldLink RX12 336 "WardenHouseModel" "to" "I" ∈ v_f_Mprogram := List.mem_cons_of_mem _ (List.mem_append_left _ (List.mem_of_getElem? (i := 20) rfl))
theorem m_f_Mprogram_l388 : Cond.methodLink RX12 388 yX12_next ∈ v_f_Mprogram := List.mem_cons_of_mem _ (List.mem_append_left _ (List.mem_of_getElem? (i := 21) rfl))
theorem m_f_Mprogram_j388 : Cond.instanceMethod yX12_next ∈ v_f_Mprogram := List.mem_cons_of_mem _ (List.mem_append_left _ (List.mem_of_getElem? (i := 22) rfl))
theorem m_f_Mprogram_s388 : Cond.selects RX12 yX12_next yX12_next ∈ v_f_Mprogram := List.mem_cons_of_mem _ (List.mem_append_left _ (List.mem_of_getElem? (i := 23) rfl))
theorem m_f_Mprogram_z12 : Cond.initialized RX12 ∈ v_f_Mprogram := List.mem_cons_of_mem _ (List.mem_append_left _ (List.mem_of_getElem? (i := 24) rfl))
theorem m_f_Mprogram_l461 : Cond.methodLink RX12 461 yX12_readAll ∈ v_f_Mprogram := List.mem_cons_of_mem _ (List.mem_append_left _ (List.mem_of_getElem? (i := 25) rfl))
theorem m_f_Mprogram_j461 : Cond.instanceMethod yX12_readAll ∈ v_f_Mprogram := List.mem_cons_of_mem _ (List.mem_append_left _ (List.mem_of_getElem? (i := 26) rfl))
theorem m_f_Mprogram_s461 : Cond.selects RX12 yX12_readAll yX12_readAll ∈ v_f_Mprogram := List.mem_cons_of_mem _ (List.mem_append_left _ (List.mem_of_getElem? (i := 27) rfl))
theorem m_f_Mprogram_l332 : Cond.methodLink RX12 332 yX12_isFine ∈ v_f_Mprogram := List.mem_cons_of_mem _ (List.mem_append_left _ (List.mem_of_getElem? (i := 28) rfl))
theorem m_f_Mprogram_j332 : Cond.instanceMethod yX12_isFine ∈ v_f_Mprogram := List.mem_cons_of_mem _ (List.mem_append_left _ (List.mem_of_getElem? (i := 29) rfl))
theorem m_f_Mprogram_s332 : Cond.selects RX12 yX12_isFine yX12_isFine ∈ v_f_Mprogram := List.mem_cons_of_mem _ (List.mem_append_left _ (List.mem_of_getElem? (i := 30) rfl))
theorem m_f_Mprogram_f268 : Cond.fieldLink RX12 268 "WardenHouseModel" "thrown" "I" ∈ v_f_Mprogram := List.mem_cons_of_mem _ (List.mem_append_left _ (List.mem_of_getElem? (i := 31) rfl))
theorem i_f_Mprogram_X12 : ∀ w ∈ wsX120, w ∈ v_f_Mprogram := fun _ h => List.mem_cons_of_mem _ (List.mem_append_right _ (List.mem_append_left _ h))
theorem j_f_Mprogram_v_k_next_end : ∀ w ∈ v_k_next_end, w ∈ v_f_Mprogram := fun _ h => List.mem_cons_of_mem _ (List.mem_append_right _ (List.mem_append_right _ (List.mem_append_left _ h)))
theorem j_f_Mprogram_v_k_readAll_end : ∀ w ∈ v_k_readAll_end, w ∈ v_f_Mprogram := fun _ h => List.mem_cons_of_mem _ (List.mem_append_right _ (List.mem_append_right _ (List.mem_append_right _ (List.mem_append_left _ h))))
theorem j_f_Mprogram_v_k_isFine0 : ∀ w ∈ v_k_isFine0, w ∈ v_f_Mprogram := fun _ h => List.mem_cons_of_mem _ (List.mem_append_right _ (List.mem_append_right _ (List.mem_append_right _ (List.mem_append_right _ (List.mem_append_left _ h)))))
theorem gk_f_Mprogram : lk_f_Mprogram.all goodWord = true := by decide +kernel
theorem gd_v_f_Mprogram : ∀ w ∈ v_f_Mprogram, gdW w := fun w h => (List.mem_cons.mp h).elim (fun e => by rw [e]; exact good_of_word rfl) (fun h => (List.mem_append.mp h).elim (fun h => good_of_word (List.all_eq_true.mp gk_f_Mprogram w h)) (fun h => (List.mem_append.mp h).elim (gd_wsX120 w) (fun h => (List.mem_append.mp h).elim (gd_v_k_next_end w) (fun h => (List.mem_append.mp h).elim (gd_v_k_readAll_end w) (fun h => (List.mem_append.mp h).elim (gd_v_k_isFine0 w) (fun h => nomatch h))))))
theorem g_f_Mprogram_388_v_k_next_end : GoodIn v_f_Mprogram (wsV RX12 388 RX12 yX12_next v_k_next_end) := goodIn_app (fun w h => (fun h => (List.mem_cons.mp h).elim (fun e => by rw [e]; exact ⟨m_f_Mprogram_l388, good_of_word rfl⟩) (fun h => (List.mem_cons.mp h).elim (fun e => by rw [e]; exact ⟨m_f_Mprogram_j388, good_of_word rfl⟩) (fun h => (List.mem_cons.mp h).elim (fun e => by rw [e]; exact ⟨m_f_Mprogram_s388, good_of_word rfl⟩) (fun h => (List.mem_cons.mp h).elim (fun e => by rw [e]; exact ⟨m_f_Mprogram_z12, good_of_word rfl⟩) (fun h => nomatch h))))) h) (fun w h => ⟨j_f_Mprogram_v_k_next_end w h, gd_v_k_next_end w h⟩)
theorem g_f_Mprogram_461_v_k_readAll_end : GoodIn v_f_Mprogram (wsV RX12 461 RX12 yX12_readAll v_k_readAll_end) := goodIn_app (fun w h => (fun h => (List.mem_cons.mp h).elim (fun e => by rw [e]; exact ⟨m_f_Mprogram_l461, good_of_word rfl⟩) (fun h => (List.mem_cons.mp h).elim (fun e => by rw [e]; exact ⟨m_f_Mprogram_j461, good_of_word rfl⟩) (fun h => (List.mem_cons.mp h).elim (fun e => by rw [e]; exact ⟨m_f_Mprogram_s461, good_of_word rfl⟩) (fun h => (List.mem_cons.mp h).elim (fun e => by rw [e]; exact ⟨m_f_Mprogram_z12, good_of_word rfl⟩) (fun h => nomatch h))))) h) (fun w h => ⟨j_f_Mprogram_v_k_readAll_end w h, gd_v_k_readAll_end w h⟩)
theorem g_f_Mprogram_332_v_k_isFine0 : GoodIn v_f_Mprogram (wsV RX12 332 RX12 yX12_isFine v_k_isFine0) := goodIn_app (fun w h => (fun h => (List.mem_cons.mp h).elim (fun e => by rw [e]; exact ⟨m_f_Mprogram_l332, good_of_word rfl⟩) (fun h => (List.mem_cons.mp h).elim (fun e => by rw [e]; exact ⟨m_f_Mprogram_j332, good_of_word rfl⟩) (fun h => (List.mem_cons.mp h).elim (fun e => by rw [e]; exact ⟨m_f_Mprogram_s332, good_of_word rfl⟩) (fun h => (List.mem_cons.mp h).elim (fun e => by rw [e]; exact ⟨m_f_Mprogram_z12, good_of_word rfl⟩) (fun h => nomatch h))))) h) (fun w h => ⟨j_f_Mprogram_v_k_isFine0 w h, gd_v_k_isFine0 w h⟩)
set_option maxHeartbeats 4000000 in
set_option maxRecDepth 100000 in
theorem f_Mprogram (l : Launch) (D : va_G) (cA : Nat → ClassId) (E : hp_N) (sz : Nat) (g : hp_M) (h : Nat) (hf : fr_Model cA g h)  : Met l yX12_program v_f_Mprogram ({ frames := 5, cells := 0, slots := 0, locals := 150 }) (hp_Pc D vwCl (hp_Tl cA) E sz g [.ref h]) (hp_Qi D vwCl (hp_Tl cA) sz g (fun _ u => ∃ fs : List Value, u h = some (.inr (12, fs)) ∧ fs.length = 137 ∧ fs[0]? = some (.int 1))) 0 0 (hp_A g sz) := by
  refine hp_ofW (cc := cX12_program) (maxL := 2) (ret := (some .int)) (by decide) rfl (Nat.le_of_ble_eq_true rfl) ?_
  intro pp ee ss mm bb mt cd ls cx hsz hw hl
  have hl : lv_has ls 2 [(0, .ref h)] := hl
  obtain ⟨r, hh, ht, hx⟩ := hf
  refine lv_aload_n cx.1 cx.2.1 dX12_program_0 rfl (lv_at hl 0 rfl) ?_
  refine lv_aload_n cx.1 cx.2.1 dX12_program_1 rfl (lv_at hl 0 rfl) ?_
  refine hp_get (C := RX12) (T := TX12) (N := 137) (ci := 12) cx hw i_f_Mprogram_X12 rfl hh 2 (by decide) m_f_Mprogram_f271 (v := .int 0) (rfl) dX12_program_2 ?_
  obtain ⟨F2, eF2⟩ : ∃ F1, F1 = (md0 r).set 4 (.int 0) := ⟨_, rfl⟩
  have lF2 : F2.length = 137 := by rw [eF2, List.length_set]; exact (md0_len r)
  have vF2 : F2[4]? = some (.int 0) := by rw [eF2]; exact fl_self (by rw [(md0_len r)]; decide)
  refine hp_put (C := RX12) (T := TX12) (N := 137) (ci := 12) (fs' := F2) cx hw i_f_Mprogram_X12 tyX12_ok nmX12 rfl hh 4 (by decide) m_f_Mprogram_f278 rfl  rfl rfl (by rw [(md0_len r)]; decide) eF2.symm dX12_program_5 (fun g1 H locs eg1 hw => ?_)
  have f3 : g1 h = some (.inr (12, F2)) := (by rw [eg1]; exact hp_up_self _ _ _)
  refine lv_iconst (v := 0) cx.1 cx.2.1 dX12_program_8 (by decide) ?_
  refine lv_istore_n (lv' := [(1, .int 0), (0, .ref h)]) cx.1 cx.2.1 dX12_program_9 rfl hl (by decide) rfl (fun ls hl => ?_)
  refine lv_iload_n cx.1 cx.2.1 dX12_program_10 rfl (lv_at hl 0 rfl) ?_
  refine lv_aload_n cx.1 cx.2.1 dX12_program_11 rfl (lv_at hl 1 rfl) ?_
  refine hp_get (C := RX12) (T := TX12) (N := 137) (ci := 12) cx hw i_f_Mprogram_X12 rfl f3 4 (by decide) m_f_Mprogram_f278 (v := .int 0) vF2 dX12_program_12 ?_
  refine lv_icmp_ge (tgt := 36) cx.1 cx.2.1 dX12_program_15 (by decide) (fun c15_4 => ?_) (fun c15_4 => ?_)
  rotate_left
  · exact absurd (by decide) c15_4
  refine lv_aload_n cx.1 cx.2.1 dX12_program_36 rfl (lv_at hl 1 rfl) ?_
  refine lv_iconst (v := 0) cx.1 cx.2.1 dX12_program_37 (by decide) ?_
  obtain ⟨F6, eF6⟩ : ∃ F1, F1 = F2.set 2 (.int 0) := ⟨_, rfl⟩
  have lF6 : F6.length = 137 := by rw [eF6, List.length_set]; exact lF2
  have vF6 : F6[2]? = some (.int 0) := by rw [eF6]; exact fl_self (by rw [lF2]; decide)
  refine hp_put (C := RX12) (T := TX12) (N := 137) (ci := 12) (fs' := F6) cx hw i_f_Mprogram_X12 tyX12_ok nmX12 rfl f3 2 (by decide) m_f_Mprogram_f271 rfl  rfl rfl (by rw [lF2]; decide) eF6.symm dX12_program_38 (fun g5 H locs eg5 hw => ?_)
  have f7 : g5 h = some (.inr (12, F6)) := (by rw [eg5]; exact hp_up_self _ _ _)
  refine lv_aload_n cx.1 cx.2.1 dX12_program_41 rfl (lv_at hl 1 rfl) ?_
  refine lv_iconst (v := 0) cx.1 cx.2.1 dX12_program_42 (by decide) ?_
  obtain ⟨F9, eF9⟩ : ∃ F1, F1 = F6.set 86 (.int 0) := ⟨_, rfl⟩
  have lF9 : F9.length = 137 := by rw [eF9, List.length_set]; exact lF6
  have vF9 : F9[86]? = some (.int 0) := by rw [eF9]; exact fl_self (by rw [lF6]; decide)
  refine hp_put (C := RX12) (T := TX12) (N := 137) (ci := 12) (fs' := F9) cx hw i_f_Mprogram_X12 tyX12_ok nmX12 rfl f7 86 (by decide) m_f_Mprogram_f424 rfl  (by decide) (by decide) (by rw [lF6]; decide) eF9.symm dX12_program_43 (fun g8 H locs eg8 hw => ?_)
  have f10 : g8 h = some (.inr (12, F9)) := (by rw [eg8]; exact hp_up_self _ _ _)
  refine lv_aload_n cx.1 cx.2.1 dX12_program_46 rfl (lv_at hl 1 rfl) ?_
  refine lv_iconst (v := 0) cx.1 cx.2.1 dX12_program_47 (by decide) ?_
  obtain ⟨F12, eF12⟩ : ∃ F1, F1 = F9.set 5 (.int 0) := ⟨_, rfl⟩
  have lF12 : F12.length = 137 := by rw [eF12, List.length_set]; exact lF9
  have vF12 : F12[5]? = some (.int 0) := by rw [eF12]; exact fl_self (by rw [lF9]; decide)
  refine hp_put (C := RX12) (T := TX12) (N := 137) (ci := 12) (fs' := F12) cx hw i_f_Mprogram_X12 tyX12_ok nmX12 rfl f10 5 (by decide) m_f_Mprogram_f428 rfl  (by decide) (by decide) (by rw [lF9]; decide) eF12.symm dX12_program_48 (fun g11 H locs eg11 hw => ?_)
  have f13 : g11 h = some (.inr (12, F12)) := (by rw [eg11]; exact hp_up_self _ _ _)
  refine lv_aload_n cx.1 cx.2.1 dX12_program_51 rfl (lv_at hl 1 rfl) ?_
  refine lv_iconst (v := 0) cx.1 cx.2.1 dX12_program_52 (by decide) ?_
  obtain ⟨F15, eF15⟩ : ∃ F1, F1 = F12.set 6 (.int 0) := ⟨_, rfl⟩
  have lF15 : F15.length = 137 := by rw [eF15, List.length_set]; exact lF12
  have vF15 : F15[6]? = some (.int 0) := by rw [eF15]; exact fl_self (by rw [lF12]; decide)
  refine hp_put (C := RX12) (T := TX12) (N := 137) (ci := 12) (fs' := F15) cx hw i_f_Mprogram_X12 tyX12_ok nmX12 rfl f13 6 (by decide) m_f_Mprogram_f289 rfl  rfl rfl (by rw [lF12]; decide) eF15.symm dX12_program_53 (fun g14 H locs eg14 hw => ?_)
  have f16 : g14 h = some (.inr (12, F15)) := (by rw [eg14]; exact hp_up_self _ _ _)
  refine lv_aload_n cx.1 cx.2.1 dX12_program_56 rfl (lv_at hl 1 rfl) ?_
  refine lv_iconst (v := (-1)) cx.1 cx.2.1 dX12_program_57 (by decide) ?_
  obtain ⟨F18, eF18⟩ : ∃ F1, F1 = F15.set 7 (.int (-1)) := ⟨_, rfl⟩
  have lF18 : F18.length = 137 := by rw [eF18, List.length_set]; exact lF15
  have vF18 : F18[7]? = some (.int (-1)) := by rw [eF18]; exact fl_self (by rw [lF15]; decide)
  refine hp_put (C := RX12) (T := TX12) (N := 137) (ci := 12) (fs' := F18) cx hw i_f_Mprogram_X12 tyX12_ok nmX12 rfl f16 7 (by decide) m_f_Mprogram_f16 rfl  rfl rfl (by rw [lF15]; decide) eF18.symm dX12_program_58 (fun g17 H locs eg17 hw => ?_)
  have f19 : g17 h = some (.inr (12, F18)) := (by rw [eg17]; exact hp_up_self _ _ _)
  refine lv_aload_n cx.1 cx.2.1 dX12_program_61 rfl (lv_at hl 1 rfl) ?_
  refine lv_iconst (v := 0) cx.1 cx.2.1 dX12_program_62 (by decide) ?_
  obtain ⟨F21, eF21⟩ : ∃ F1, F1 = F18.set 20 (.int 0) := ⟨_, rfl⟩
  have lF21 : F21.length = 137 := by rw [eF21, List.length_set]; exact lF18
  have vF21 : F21[20]? = some (.int 0) := by rw [eF21]; exact fl_self (by rw [lF18]; decide)
  refine hp_put (C := RX12) (T := TX12) (N := 137) (ci := 12) (fs' := F21) cx hw i_f_Mprogram_X12 tyX12_ok nmX12 rfl f19 20 (by decide) m_f_Mprogram_f411 rfl  rfl rfl (by rw [lF18]; decide) eF21.symm dX12_program_63 (fun g20 H locs eg20 hw => ?_)
  have f22 : g20 h = some (.inr (12, F21)) := (by rw [eg20]; exact hp_up_self _ _ _)
  refine lv_aload_n cx.1 cx.2.1 dX12_program_66 rfl (lv_at hl 1 rfl) ?_
  refine lv_iconst (v := 0) cx.1 cx.2.1 dX12_program_67 (by decide) ?_
  obtain ⟨F24, eF24⟩ : ∃ F1, F1 = F21.set 22 (.int 0) := ⟨_, rfl⟩
  have lF24 : F24.length = 137 := by rw [eF24, List.length_set]; exact lF21
  have vF24 : F24[22]? = some (.int 0) := by rw [eF24]; exact fl_self (by rw [lF21]; decide)
  refine hp_put (C := RX12) (T := TX12) (N := 137) (ci := 12) (fs' := F24) cx hw i_f_Mprogram_X12 tyX12_ok nmX12 rfl f22 22 (by decide) m_f_Mprogram_f431 rfl  rfl rfl (by rw [lF21]; decide) eF24.symm dX12_program_68 (fun g23 H locs eg23 hw => ?_)
  have f25 : g23 h = some (.inr (12, F24)) := (by rw [eg23]; exact hp_up_self _ _ _)
  refine lv_aload_n cx.1 cx.2.1 dX12_program_71 rfl (lv_at hl 1 rfl) ?_
  refine lv_iconst (v := 0) cx.1 cx.2.1 dX12_program_72 (by decide) ?_
  obtain ⟨F27, eF27⟩ : ∃ F1, F1 = F24.set 25 (.int 0) := ⟨_, rfl⟩
  have lF27 : F27.length = 137 := by rw [eF27, List.length_set]; exact lF24
  have vF27 : F27[25]? = some (.int 0) := by rw [eF27]; exact fl_self (by rw [lF24]; decide)
  refine hp_put (C := RX12) (T := TX12) (N := 137) (ci := 12) (fs' := F27) cx hw i_f_Mprogram_X12 tyX12_ok nmX12 rfl f25 25 (by decide) m_f_Mprogram_f434 rfl  rfl rfl (by rw [lF24]; decide) eF27.symm dX12_program_73 (fun g26 H locs eg26 hw => ?_)
  have f28 : g26 h = some (.inr (12, F27)) := (by rw [eg26]; exact hp_up_self _ _ _)
  refine lv_aload_n cx.1 cx.2.1 dX12_program_76 rfl (lv_at hl 1 rfl) ?_
  refine lv_iconst (v := 0) cx.1 cx.2.1 dX12_program_77 (by decide) ?_
  obtain ⟨F30, eF30⟩ : ∃ F1, F1 = F27.set 35 (.int 0) := ⟨_, rfl⟩
  have lF30 : F30.length = 137 := by rw [eF30, List.length_set]; exact lF27
  have vF30 : F30[35]? = some (.int 0) := by rw [eF30]; exact fl_self (by rw [lF27]; decide)
  refine hp_put (C := RX12) (T := TX12) (N := 137) (ci := 12) (fs' := F30) cx hw i_f_Mprogram_X12 tyX12_ok nmX12 rfl f28 35 (by decide) m_f_Mprogram_f437 rfl  rfl rfl (by rw [lF27]; decide) eF30.symm dX12_program_78 (fun g29 H locs eg29 hw => ?_)
  have f31 : g29 h = some (.inr (12, F30)) := (by rw [eg29]; exact hp_up_self _ _ _)
  refine lv_aload_n cx.1 cx.2.1 dX12_program_81 rfl (lv_at hl 1 rfl) ?_
  refine lv_iconst (v := 0) cx.1 cx.2.1 dX12_program_82 (by decide) ?_
  obtain ⟨F33, eF33⟩ : ∃ F1, F1 = F30.set 48 (.int 0) := ⟨_, rfl⟩
  have lF33 : F33.length = 137 := by rw [eF33, List.length_set]; exact lF30
  have vF33 : F33[48]? = some (.int 0) := by rw [eF33]; exact fl_self (by rw [lF30]; decide)
  refine hp_put (C := RX12) (T := TX12) (N := 137) (ci := 12) (fs' := F33) cx hw i_f_Mprogram_X12 tyX12_ok nmX12 rfl f31 48 (by decide) m_f_Mprogram_f440 rfl  rfl rfl (by rw [lF30]; decide) eF33.symm dX12_program_83 (fun g32 H locs eg32 hw => ?_)
  have f34 : g32 h = some (.inr (12, F33)) := (by rw [eg32]; exact hp_up_self _ _ _)
  refine lv_aload_n cx.1 cx.2.1 dX12_program_86 rfl (lv_at hl 1 rfl) ?_
  refine lv_iconst (v := 0) cx.1 cx.2.1 dX12_program_87 (by decide) ?_
  obtain ⟨F36, eF36⟩ : ∃ F1, F1 = F33.set 50 (.int 0) := ⟨_, rfl⟩
  have lF36 : F36.length = 137 := by rw [eF36, List.length_set]; exact lF33
  have vF36 : F36[50]? = some (.int 0) := by rw [eF36]; exact fl_self (by rw [lF33]; decide)
  refine hp_put (C := RX12) (T := TX12) (N := 137) (ci := 12) (fs' := F36) cx hw i_f_Mprogram_X12 tyX12_ok nmX12 rfl f34 50 (by decide) m_f_Mprogram_f443 rfl  rfl rfl (by rw [lF33]; decide) eF36.symm dX12_program_88 (fun g35 H locs eg35 hw => ?_)
  have f37 : g35 h = some (.inr (12, F36)) := (by rw [eg35]; exact hp_up_self _ _ _)
  refine lv_aload_n cx.1 cx.2.1 dX12_program_91 rfl (lv_at hl 1 rfl) ?_
  refine lv_iconst (v := 0) cx.1 cx.2.1 dX12_program_92 (by decide) ?_
  obtain ⟨F39, eF39⟩ : ∃ F1, F1 = F36.set 56 (.int 0) := ⟨_, rfl⟩
  have lF39 : F39.length = 137 := by rw [eF39, List.length_set]; exact lF36
  have vF39 : F39[56]? = some (.int 0) := by rw [eF39]; exact fl_self (by rw [lF36]; decide)
  refine hp_put (C := RX12) (T := TX12) (N := 137) (ci := 12) (fs' := F39) cx hw i_f_Mprogram_X12 tyX12_ok nmX12 rfl f37 56 (by decide) m_f_Mprogram_f446 rfl  rfl rfl (by rw [lF36]; decide) eF39.symm dX12_program_93 (fun g38 H locs eg38 hw => ?_)
  have f40 : g38 h = some (.inr (12, F39)) := (by rw [eg38]; exact hp_up_self _ _ _)
  refine lv_aload_n cx.1 cx.2.1 dX12_program_96 rfl (lv_at hl 1 rfl) ?_
  refine lv_iconst (v := 0) cx.1 cx.2.1 dX12_program_97 (by decide) ?_
  obtain ⟨F42, eF42⟩ : ∃ F1, F1 = F39.set 58 (.int 0) := ⟨_, rfl⟩
  have lF42 : F42.length = 137 := by rw [eF42, List.length_set]; exact lF39
  have vF42 : F42[58]? = some (.int 0) := by rw [eF42]; exact fl_self (by rw [lF39]; decide)
  refine hp_put (C := RX12) (T := TX12) (N := 137) (ci := 12) (fs' := F42) cx hw i_f_Mprogram_X12 tyX12_ok nmX12 rfl f40 58 (by decide) m_f_Mprogram_f449 rfl  rfl rfl (by rw [lF39]; decide) eF42.symm dX12_program_98 (fun g41 H locs eg41 hw => ?_)
  have f43 : g41 h = some (.inr (12, F42)) := (by rw [eg41]; exact hp_up_self _ _ _)
  refine lv_aload_n cx.1 cx.2.1 dX12_program_101 rfl (lv_at hl 1 rfl) ?_
  refine lv_iconst (v := 0) cx.1 cx.2.1 dX12_program_102 (by decide) ?_
  obtain ⟨F45, eF45⟩ : ∃ F1, F1 = F42.set 60 (.int 0) := ⟨_, rfl⟩
  have lF45 : F45.length = 137 := by rw [eF45, List.length_set]; exact lF42
  have vF45 : F45[60]? = some (.int 0) := by rw [eF45]; exact fl_self (by rw [lF42]; decide)
  refine hp_put (C := RX12) (T := TX12) (N := 137) (ci := 12) (fs' := F45) cx hw i_f_Mprogram_X12 tyX12_ok nmX12 rfl f43 60 (by decide) m_f_Mprogram_f452 rfl  rfl rfl (by rw [lF42]; decide) eF45.symm dX12_program_103 (fun g44 H locs eg44 hw => ?_)
  have f46 : g44 h = some (.inr (12, F45)) := (by rw [eg44]; exact hp_up_self _ _ _)
  refine lv_aload_n cx.1 cx.2.1 dX12_program_106 rfl (lv_at hl 1 rfl) ?_
  refine lv_iconst (v := 0) cx.1 cx.2.1 dX12_program_107 (by decide) ?_
  obtain ⟨F48, eF48⟩ : ∃ F1, F1 = F45.set 62 (.int 0) := ⟨_, rfl⟩
  have lF48 : F48.length = 137 := by rw [eF48, List.length_set]; exact lF45
  have vF48 : F48[62]? = some (.int 0) := by rw [eF48]; exact fl_self (by rw [lF45]; decide)
  refine hp_put (C := RX12) (T := TX12) (N := 137) (ci := 12) (fs' := F48) cx hw i_f_Mprogram_X12 tyX12_ok nmX12 rfl f46 62 (by decide) m_f_Mprogram_f455 rfl  rfl rfl (by rw [lF45]; decide) eF48.symm dX12_program_108 (fun g47 H locs eg47 hw => ?_)
  have f49 : g47 h = some (.inr (12, F48)) := (by rw [eg47]; exact hp_up_self _ _ _)
  refine lv_aload_n cx.1 cx.2.1 dX12_program_111 rfl (lv_at hl 1 rfl) ?_
  refine lv_iconst (v := 0) cx.1 cx.2.1 dX12_program_112 (by decide) ?_
  obtain ⟨F51, eF51⟩ : ∃ F1, F1 = F48.set 63 (.int 0) := ⟨_, rfl⟩
  have lF51 : F51.length = 137 := by rw [eF51, List.length_set]; exact lF48
  have vF51 : F51[63]? = some (.int 0) := by rw [eF51]; exact fl_self (by rw [lF48]; decide)
  refine hp_put (C := RX12) (T := TX12) (N := 137) (ci := 12) (fs' := F51) cx hw i_f_Mprogram_X12 tyX12_ok nmX12 rfl f49 63 (by decide) m_f_Mprogram_f458 rfl  rfl rfl (by rw [lF48]; decide) eF51.symm dX12_program_113 (fun g50 H locs eg50 hw => ?_)
  have f52 : g50 h = some (.inr (12, F51)) := (by rw [eg50]; exact hp_up_self _ _ _)
  refine lv_aload_n cx.1 cx.2.1 dX12_program_116 rfl (lv_at hl 1 rfl) ?_
  refine lv_iconst (v := 0) cx.1 cx.2.1 dX12_program_117 (by decide) ?_
  obtain ⟨F54, eF54⟩ : ∃ F1, F1 = F51.set 65 (.int 0) := ⟨_, rfl⟩
  have lF54 : F54.length = 137 := by rw [eF54, List.length_set]; exact lF51
  have vF54 : F54[65]? = some (.int 0) := by rw [eF54]; exact fl_self (by rw [lF51]; decide)
  refine hp_put (C := RX12) (T := TX12) (N := 137) (ci := 12) (fs' := F54) cx hw i_f_Mprogram_X12 tyX12_ok nmX12 rfl f52 65 (by decide) m_f_Mprogram_f418 rfl  rfl rfl (by rw [lF51]; decide) eF54.symm dX12_program_118 (fun g53 H locs eg53 hw => ?_)
  have f55 : g53 h = some (.inr (12, F54)) := (by rw [eg53]; exact hp_up_self _ _ _)
  refine lv_aload_n cx.1 cx.2.1 dX12_program_121 rfl (lv_at hl 1 rfl) ?_
  refine lv_iconst (v := (-1)) cx.1 cx.2.1 dX12_program_122 (by decide) ?_
  obtain ⟨F57, eF57⟩ : ∃ F1, F1 = F54.set 64 (.int (-1)) := ⟨_, rfl⟩
  have lF57 : F57.length = 137 := by rw [eF57, List.length_set]; exact lF54
  have vF57 : F57[64]? = some (.int (-1)) := by rw [eF57]; exact fl_self (by rw [lF54]; decide)
  refine hp_put (C := RX12) (T := TX12) (N := 137) (ci := 12) (fs' := F57) cx hw i_f_Mprogram_X12 tyX12_ok nmX12 rfl f55 64 (by decide) m_f_Mprogram_f421 rfl  rfl rfl (by rw [lF54]; decide) eF57.symm dX12_program_123 (fun g56 H locs eg56 hw => ?_)
  have f58 : g56 h = some (.inr (12, F57)) := (by rw [eg56]; exact hp_up_self _ _ _)
  refine lv_aload_n cx.1 cx.2.1 dX12_program_126 rfl (lv_at hl 1 rfl) ?_
  refine lv_iconst (v := 4) cx.1 cx.2.1 dX12_program_127 (by decide) ?_
  obtain ⟨F60, eF60⟩ : ∃ F1, F1 = F57.set 16 (.int 4) := ⟨_, rfl⟩
  have lF60 : F60.length = 137 := by rw [eF60, List.length_set]; exact lF57
  have vF60 : F60[16]? = some (.int 4) := by rw [eF60]; exact fl_self (by rw [lF57]; decide)
  refine hp_put (C := RX12) (T := TX12) (N := 137) (ci := 12) (fs' := F60) cx hw i_f_Mprogram_X12 tyX12_ok nmX12 rfl f58 16 (by decide) m_f_Mprogram_f382 rfl  rfl rfl (by rw [lF57]; decide) eF60.symm dX12_program_128 (fun g59 H locs eg59 hw => ?_)
  have f61 : g59 h = some (.inr (12, F60)) := (by rw [eg59]; exact hp_up_self _ _ _)
  refine lv_aload_n cx.1 cx.2.1 dX12_program_131 rfl (lv_at hl 1 rfl) ?_
  refine lv_iconst (v := 0) cx.1 cx.2.1 dX12_program_132 (by decide) ?_
  obtain ⟨F63, eF63⟩ : ∃ F1, F1 = F60.set 10 (.int 0) := ⟨_, rfl⟩
  have lF63 : F63.length = 137 := by rw [eF63, List.length_set]; exact lF60
  have vF63 : F63[10]? = some (.int 0) := by rw [eF63]; exact fl_self (by rw [lF60]; decide)
  refine hp_put (C := RX12) (T := TX12) (N := 137) (ci := 12) (fs' := F63) cx hw i_f_Mprogram_X12 tyX12_ok nmX12 rfl f61 10 (by decide) m_f_Mprogram_f336 rfl  rfl rfl (by rw [lF60]; decide) eF63.symm dX12_program_133 (fun g62 H locs eg62 hw => ?_)
  have f64 : g62 h = some (.inr (12, F63)) := (by rw [eg62]; exact hp_up_self _ _ _)
  refine lv_aload_n cx.1 cx.2.1 dX12_program_136 rfl (lv_at hl 1 rfl) ?_
  have v65 : F18[6]? = some (.int 0) := by rw [eF18]; exact (fl_ne (by decide)).trans vF15
  have v66 : F21[6]? = some (.int 0) := by rw [eF21]; exact (fl_ne (by decide)).trans v65
  have v67 : F24[6]? = some (.int 0) := by rw [eF24]; exact (fl_ne (by decide)).trans v66
  have v68 : F27[6]? = some (.int 0) := by rw [eF27]; exact (fl_ne (by decide)).trans v67
  have v69 : F30[6]? = some (.int 0) := by rw [eF30]; exact (fl_ne (by decide)).trans v68
  have v70 : F33[6]? = some (.int 0) := by rw [eF33]; exact (fl_ne (by decide)).trans v69
  have v71 : F36[6]? = some (.int 0) := by rw [eF36]; exact (fl_ne (by decide)).trans v70
  have v72 : F39[6]? = some (.int 0) := by rw [eF39]; exact (fl_ne (by decide)).trans v71
  have v73 : F42[6]? = some (.int 0) := by rw [eF42]; exact (fl_ne (by decide)).trans v72
  have v74 : F45[6]? = some (.int 0) := by rw [eF45]; exact (fl_ne (by decide)).trans v73
  have v75 : F48[6]? = some (.int 0) := by rw [eF48]; exact (fl_ne (by decide)).trans v74
  have v76 : F51[6]? = some (.int 0) := by rw [eF51]; exact (fl_ne (by decide)).trans v75
  have v77 : F54[6]? = some (.int 0) := by rw [eF54]; exact (fl_ne (by decide)).trans v76
  have v78 : F57[6]? = some (.int 0) := by rw [eF57]; exact (fl_ne (by decide)).trans v77
  have v79 : F60[6]? = some (.int 0) := by rw [eF60]; exact (fl_ne (by decide)).trans v78
  have v80 : F63[6]? = some (.int 0) := by rw [eF63]; exact (fl_ne (by decide)).trans v79
  have v81 : F6[4]? = some (.int 0) := by rw [eF6]; exact (fl_ne (by decide)).trans vF2
  have v82 : F9[4]? = some (.int 0) := by rw [eF9]; exact (fl_ne (by decide)).trans v81
  have v83 : F12[4]? = some (.int 0) := by rw [eF12]; exact (fl_ne (by decide)).trans v82
  have v84 : F15[4]? = some (.int 0) := by rw [eF15]; exact (fl_ne (by decide)).trans v83
  have v85 : F18[4]? = some (.int 0) := by rw [eF18]; exact (fl_ne (by decide)).trans v84
  have v86 : F21[4]? = some (.int 0) := by rw [eF21]; exact (fl_ne (by decide)).trans v85
  have v87 : F24[4]? = some (.int 0) := by rw [eF24]; exact (fl_ne (by decide)).trans v86
  have v88 : F27[4]? = some (.int 0) := by rw [eF27]; exact (fl_ne (by decide)).trans v87
  have v89 : F30[4]? = some (.int 0) := by rw [eF30]; exact (fl_ne (by decide)).trans v88
  have v90 : F33[4]? = some (.int 0) := by rw [eF33]; exact (fl_ne (by decide)).trans v89
  have v91 : F36[4]? = some (.int 0) := by rw [eF36]; exact (fl_ne (by decide)).trans v90
  have v92 : F39[4]? = some (.int 0) := by rw [eF39]; exact (fl_ne (by decide)).trans v91
  have v93 : F42[4]? = some (.int 0) := by rw [eF42]; exact (fl_ne (by decide)).trans v92
  have v94 : F45[4]? = some (.int 0) := by rw [eF45]; exact (fl_ne (by decide)).trans v93
  have v95 : F48[4]? = some (.int 0) := by rw [eF48]; exact (fl_ne (by decide)).trans v94
  have v96 : F51[4]? = some (.int 0) := by rw [eF51]; exact (fl_ne (by decide)).trans v95
  have v97 : F54[4]? = some (.int 0) := by rw [eF54]; exact (fl_ne (by decide)).trans v96
  have v98 : F57[4]? = some (.int 0) := by rw [eF57]; exact (fl_ne (by decide)).trans v97
  have v99 : F60[4]? = some (.int 0) := by rw [eF60]; exact (fl_ne (by decide)).trans v98
  have v100 : F63[4]? = some (.int 0) := by rw [eF63]; exact (fl_ne (by decide)).trans v99
  refine hp_callVv (As := []) (rest := []) cx hw (k_next_end l D cA E _ g62 0 0 h F63 lF63 f64 v80 v100 vF63 (by decide)) (cwV 0 cx.2.2.2.2.2.1 g_f_Mprogram_388_v_k_next_end rfl rfl rfl (by decide +kernel) ⟨Nat.le_of_ble_eq_true rfl, Nat.le_of_ble_eq_true rfl⟩) f64 rfl rfl hl.1 rfl (Nat.le_of_ble_eq_true rfl) dX12_program_137 ⟨Nat.le_of_ble_eq_true rfl, Nat.le_of_ble_eq_true rfl⟩ (fun u101 H locs hp103 hw => ?_)
  obtain ⟨F104, eu101, lF104, vF104_0, vF104_1, kF104⟩ := hp103
  have f105 : u101 h = some (.inr (12, F104)) := (by rw [eu101]; exact hp_up_self _ _ _)
  refine lv_aload_n cx.1 cx.2.1 dX12_program_140 rfl (lv_at hl 1 rfl) ?_
  have v106 : F104[6]? = some (.int 0) := (kF104 6 (by decide)).trans v80
  have v107 : F104[4]? = some (.int 0) := (kF104 4 (by decide)).trans v100
  refine hp_callVv (As := []) (rest := []) cx hw (k_readAll_end l D cA E _ u101 0 h F104 lF104 f105 v106 vF104_0 v107) (cwV 0 cx.2.2.2.2.2.1 g_f_Mprogram_461_v_k_readAll_end rfl rfl rfl (by decide +kernel) ⟨Nat.le_of_ble_eq_true rfl, Nat.le_of_ble_eq_true rfl⟩) f105 rfl rfl hl.1 rfl (Nat.le_of_ble_eq_true rfl) dX12_program_141 ⟨Nat.le_of_ble_eq_true rfl, Nat.le_of_ble_eq_true rfl⟩ (fun u108 H locs hp110 hw => ?_)
  obtain ⟨F111, eu108, lF111, vF111_0, vF111_1, vF111_2, kF111⟩ := hp110
  have f112 : u108 h = some (.inr (12, F111)) := (by rw [eu108]; exact hp_up_self _ _ _)
  refine lv_aload_n cx.1 cx.2.1 dX12_program_144 rfl (lv_at hl 1 rfl) ?_
  refine lv_aload_n cx.1 cx.2.1 dX12_program_145 rfl (lv_at hl 1 rfl) ?_
  refine hp_callVi (As := []) (rest := [.ref h]) cx hw (k_isFine0 l D cA E _ u108 1 h F111 lF111 f112 vF111_0 (by decide)) (cwV 0 cx.2.2.2.2.2.1 g_f_Mprogram_332_v_k_isFine0 rfl rfl rfl (by decide +kernel) ⟨Nat.le_of_ble_eq_true rfl, Nat.le_of_ble_eq_true rfl⟩) f112 rfl rfl hl.1 rfl (Nat.le_of_ble_eq_true rfl) dX12_program_146 ⟨Nat.le_of_ble_eq_true rfl, Nat.le_of_ble_eq_true rfl⟩ (fun r114 u113 H locs hp115 hw => ?_)
  obtain ⟨euu113, err114⟩ := hp115
  rw [euu113] at hw
  subst err114
  obtain ⟨F117, eF117⟩ : ∃ F1, F1 = F111.set 5 (.int 0) := ⟨_, rfl⟩
  have lF117 : F117.length = 137 := by rw [eF117, List.length_set]; exact lF111
  have vF117 : F117[5]? = some (.int 0) := by rw [eF117]; exact fl_self (by rw [lF111]; decide)
  refine hp_put (C := RX12) (T := TX12) (N := 137) (ci := 12) (fs' := F117) cx hw i_f_Mprogram_X12 tyX12_ok nmX12 rfl f112 5 (by decide) m_f_Mprogram_f428 rfl  (by decide) (by decide) (by rw [lF111]; decide) eF117.symm dX12_program_149 (fun g116 H locs eg116 hw => ?_)
  have f118 : g116 h = some (.inr (12, F117)) := (by rw [eg116]; exact hp_up_self _ _ _)
  refine lv_aload_n cx.1 cx.2.1 dX12_program_152 rfl (lv_at hl 1 rfl) ?_
  refine lv_aload_n cx.1 cx.2.1 dX12_program_153 rfl (lv_at hl 1 rfl) ?_
  refine hp_get (C := RX12) (T := TX12) (N := 137) (ci := 12) cx hw i_f_Mprogram_X12 rfl f118 5 (by decide) m_f_Mprogram_f428 (v := .int 0) vF117 dX12_program_154 ?_
  refine lv_if_eq (tgt := 164) cx.1 cx.2.1 dX12_program_157 (by decide) (fun c157_119 => ?_) (fun c157_119 => ?_)
  rotate_left
  · exact absurd (by decide) c157_119
  refine lv_iconst (v := 1) cx.1 cx.2.1 dX12_program_164 (by decide) ?_
  obtain ⟨F121, eF121⟩ : ∃ F1, F1 = F117.set 0 (.int 1) := ⟨_, rfl⟩
  have lF121 : F121.length = 137 := by rw [eF121, List.length_set]; exact lF117
  have vF121 : F121[0]? = some (.int 1) := by rw [eF121]; exact fl_self (by rw [lF117]; decide)
  refine hp_put (C := RX12) (T := TX12) (N := 137) (ci := 12) (fs' := F121) cx hw i_f_Mprogram_X12 tyX12_ok nmX12 rfl f118 0 (by decide) m_f_Mprogram_f268 rfl  rfl rfl (by rw [lF117]; decide) eF121.symm dX12_program_165 (fun g120 H locs eg120 hw => ?_)
  have f122 : g120 h = some (.inr (12, F121)) := (by rw [eg120]; exact hp_up_self _ _ _)
  refine lv_aload_n cx.1 cx.2.1 dX12_program_168 rfl (lv_at hl 1 rfl) ?_
  have v123 : F121[5]? = some (.int 0) := by rw [eF121]; exact (fl_ne (by decide)).trans vF117
  refine hp_get (C := RX12) (T := TX12) (N := 137) (ci := 12) cx hw i_f_Mprogram_X12 rfl f122 5 (by decide) m_f_Mprogram_f428 (v := .int 0) v123 dX12_program_169 ?_
  refine lv_if_ne (tgt := 177) cx.1 cx.2.1 dX12_program_172 (by decide) (fun c172_124 => ?_) (fun c172_124 => ?_)
  · exact absurd c172_124 (by decide)
  refine lv_iconst (v := 0) cx.1 cx.2.1 dX12_program_175 (by decide) ?_
  exact hp_iret cx hw (⟨F121, f122, lF121, vF121⟩) dX12_program_176

def lk_f_Mrun : List Cond := [Cond.fieldLink RX12 428 "WardenHouseModel" "hasProgram" "Z", Cond.fieldLink RX12 268 "WardenHouseModel" "thrown" "I"]
def v_f_Mrun : List Cond := .code yX12_run cX12_run 11 (some .int) :: (lk_f_Mrun ++ (wsX120 ++ []))
theorem m_f_Mrun_f428 : Cond.fieldLink RX12 428 "WardenHouseModel" "hasProgram" "Z" ∈ v_f_Mrun := List.mem_cons_of_mem _ (List.mem_append_left _ (List.mem_of_getElem? (i := 0) rfl))
theorem m_f_Mrun_f268 : Cond.fieldLink RX12 268 "WardenHouseModel" "thrown" "I" ∈ v_f_Mrun := List.mem_cons_of_mem _ (List.mem_append_left _ (List.mem_of_getElem? (i := 1) rfl))
theorem i_f_Mrun_X12 : ∀ w ∈ wsX120, w ∈ v_f_Mrun := fun _ h => List.mem_cons_of_mem _ (List.mem_append_right _ (List.mem_append_left _ h))
theorem gk_f_Mrun : lk_f_Mrun.all goodWord = true := by decide +kernel
theorem gd_v_f_Mrun : ∀ w ∈ v_f_Mrun, gdW w := fun w h => (List.mem_cons.mp h).elim (fun e => by rw [e]; exact good_of_word rfl) (fun h => (List.mem_append.mp h).elim (fun h => good_of_word (List.all_eq_true.mp gk_f_Mrun w h)) (fun h => (List.mem_append.mp h).elim (gd_wsX120 w) (fun h => nomatch h)))
set_option maxHeartbeats 4000000 in
set_option maxRecDepth 100000 in
theorem f_Mrun (l : Launch) (D : va_G) (cA : Nat → ClassId) (E : hp_N) (sz : Nat) (g : hp_M) (h : Nat) (hf : fr_Model cA g h) (x y z t : Int32) : Met l yX12_run v_f_Mrun ({ frames := 0, cells := 0, slots := 0, locals := 0 }) (hp_Pc D vwCl (hp_Tl cA) E sz g [.ref h, .int x, .int y, .int z, .int t]) (hp_Qi D vwCl (hp_Tl cA) sz g (fun _ u => ∃ fs : List Value, u h = some (.inr (12, fs)) ∧ fs.length = 137 ∧ fs[0]? = some (.int 1))) 0 0 (hp_A g sz) := by
  refine hp_ofW (cc := cX12_run) (maxL := 11) (ret := (some .int)) (by decide) rfl (Nat.le_of_ble_eq_true rfl) ?_
  intro pp ee ss mm bb mt cd ls cx hsz hw hl
  have hl : lv_has ls 11 [(0, .ref h), (1, .int x), (2, .int y), (3, .int z), (4, .int t)] := hl
  obtain ⟨r, hh, ht, hx⟩ := hf
  refine lv_aload_n cx.1 cx.2.1 dX12_run_0 rfl (lv_at hl 0 rfl) ?_
  refine hp_get (C := RX12) (T := TX12) (N := 137) (ci := 12) cx hw i_f_Mrun_X12 rfl hh 5 (by decide) m_f_Mrun_f428 (v := .int 0) (rfl) dX12_run_1 ?_
  refine lv_if_eq (tgt := 49) cx.1 cx.2.1 dX12_run_4 (by decide) (fun c4_1 => ?_) (fun c4_1 => ?_)
  rotate_left
  · exact absurd (by decide) c4_1
  refine lv_iconst (v := 0) cx.1 cx.2.1 dX12_run_49 (by decide) ?_
  refine lv_istore (lv' := [(5, .int 0), (0, .ref h), (1, .int x), (2, .int y), (3, .int z), (4, .int t)]) cx.1 cx.2.1 dX12_run_50 hl (by decide) rfl (fun ls hl => ?_)
  refine lv_aload_n cx.1 cx.2.1 dX12_run_52 rfl (lv_at hl 1 rfl) ?_
  refine lv_aload_n cx.1 cx.2.1 dX12_run_53 rfl (lv_at hl 1 rfl) ?_
  refine hp_get (C := RX12) (T := TX12) (N := 137) (ci := 12) cx hw i_f_Mrun_X12 rfl hh 5 (by decide) m_f_Mrun_f428 (v := .int 0) (rfl) dX12_run_54 ?_
  refine lv_if_ne (tgt := 64) cx.1 cx.2.1 dX12_run_57 (by decide) (fun c57_2 => ?_) (fun c57_2 => ?_)
  · exact absurd c57_2 (by decide)
  refine lv_iconst (v := 1) cx.1 cx.2.1 dX12_run_60 (by decide) ?_
  refine lv_goto (tgt := 74) cx.1 cx.2.1 dX12_run_61 (by decide) ?_
  obtain ⟨F4, eF4⟩ : ∃ F1, F1 = (md0 r).set 0 (.int 1) := ⟨_, rfl⟩
  have lF4 : F4.length = 137 := by rw [eF4, List.length_set]; exact (md0_len r)
  have vF4 : F4[0]? = some (.int 1) := by rw [eF4]; exact fl_self (by rw [(md0_len r)]; decide)
  refine hp_put (C := RX12) (T := TX12) (N := 137) (ci := 12) (fs' := F4) cx hw i_f_Mrun_X12 tyX12_ok nmX12 rfl hh 0 (by decide) m_f_Mrun_f268 rfl  rfl rfl (by rw [(md0_len r)]; decide) eF4.symm dX12_run_74 (fun g3 H locs eg3 hw => ?_)
  have f5 : g3 h = some (.inr (12, F4)) := (by rw [eg3]; exact hp_up_self _ _ _)
  refine lv_aload_n cx.1 cx.2.1 dX12_run_77 rfl (lv_at hl 1 rfl) ?_
  refine hp_get (C := RX12) (T := TX12) (N := 137) (ci := 12) cx hw i_f_Mrun_X12 rfl f5 0 (by decide) m_f_Mrun_f268 (v := .int 1) vF4 dX12_run_78 ?_
  refine lv_if_eq (tgt := 86) cx.1 cx.2.1 dX12_run_81 (by decide) (fun c81_6 => ?_) (fun c81_6 => ?_)
  · exact absurd c81_6 (by decide)
  refine lv_iconst (v := 0) cx.1 cx.2.1 dX12_run_84 (by decide) ?_
  exact hp_iret cx hw (⟨F4, f5, lF4, vF4⟩) dX12_run_85

def lk_k_thrown : List Cond := [Cond.fieldLink RX12 268 "WardenHouseModel" "thrown" "I"]
def v_k_thrown : List Cond := .code yX12_thrown cX12_thrown 1 (some .int) :: (lk_k_thrown ++ (wsX120 ++ []))
theorem m_k_thrown_f268 : Cond.fieldLink RX12 268 "WardenHouseModel" "thrown" "I" ∈ v_k_thrown := List.mem_cons_of_mem _ (List.mem_append_left _ (List.mem_of_getElem? (i := 0) rfl))
theorem i_k_thrown_X12 : ∀ w ∈ wsX120, w ∈ v_k_thrown := fun _ h => List.mem_cons_of_mem _ (List.mem_append_right _ (List.mem_append_left _ h))
theorem gk_k_thrown : lk_k_thrown.all goodWord = true := by decide +kernel
theorem gd_v_k_thrown : ∀ w ∈ v_k_thrown, gdW w := fun w h => (List.mem_cons.mp h).elim (fun e => by rw [e]; exact good_of_word rfl) (fun h => (List.mem_append.mp h).elim (fun h => good_of_word (List.all_eq_true.mp gk_k_thrown w h)) (fun h => (List.mem_append.mp h).elim (gd_wsX120 w) (fun h => nomatch h)))
set_option maxHeartbeats 4000000 in
set_option maxRecDepth 100000 in
theorem k_thrown (l : Launch) (D : va_G) (cA : Nat → ClassId) (E : hp_N) (sz : Nat) (g : hp_M) (x : Int32) (h : Nat) (fs : List Value) (hL : fs.length = 137) (hh : g h = some (.inr (12, fs))) (h0 : fs[0]? = some (.int x))  : Met l yX12_thrown v_k_thrown ({ frames := 0, cells := 0, slots := 0, locals := 0 }) (hp_Pc D vwCl (hp_Tl cA) E sz g [.ref h]) (hp_Qi D vwCl (hp_Tl cA) sz g (fun r u => u = g ∧ r = x)) 0 0 (hp_A g sz) := by
  refine hp_ofW (cc := cX12_thrown) (maxL := 1) (ret := (some .int)) (by decide) rfl (Nat.le_of_ble_eq_true rfl) ?_
  intro pp ee ss mm bb mt cd ls cx hsz hw hl
  have hl : lv_has ls 1 [(0, .ref h)] := hl
  refine lv_aload_n cx.1 cx.2.1 dX12_thrown_0 rfl (lv_at hl 0 rfl) ?_
  refine hp_get (C := RX12) (T := TX12) (N := 137) (ci := 12) cx hw i_k_thrown_X12 rfl hh 0 (by decide) m_k_thrown_f268 (v := .int x) h0 dX12_thrown_1 ?_
  exact hp_iret cx hw (⟨rfl, rfl⟩) dX12_thrown_4

def lk_f_Mfeed : List Cond := [Cond.fieldLink RX12 268 "WardenHouseModel" "thrown" "I", Cond.fieldLink RX12 271 "WardenHouseModel" "taped" "I", Cond.fieldLink RX12 9 "WardenHouseModel" "tape" "[I"]
def v_f_Mfeed : List Cond := .code yX12_feed cX12_feed 8 (some .boolean) :: (lk_f_Mfeed ++ (wsX120 ++ []))
theorem m_f_Mfeed_f268 : Cond.fieldLink RX12 268 "WardenHouseModel" "thrown" "I" ∈ v_f_Mfeed := List.mem_cons_of_mem _ (List.mem_append_left _ (List.mem_of_getElem? (i := 0) rfl))
theorem m_f_Mfeed_f271 : Cond.fieldLink RX12 271 "WardenHouseModel" "taped" "I" ∈ v_f_Mfeed := List.mem_cons_of_mem _ (List.mem_append_left _ (List.mem_of_getElem? (i := 1) rfl))
theorem m_f_Mfeed_f9 : Cond.fieldLink RX12 9 "WardenHouseModel" "tape" "[I" ∈ v_f_Mfeed := List.mem_cons_of_mem _ (List.mem_append_left _ (List.mem_of_getElem? (i := 2) rfl))
theorem i_f_Mfeed_X12 : ∀ w ∈ wsX120, w ∈ v_f_Mfeed := fun _ h => List.mem_cons_of_mem _ (List.mem_append_right _ (List.mem_append_left _ h))
theorem gk_f_Mfeed : lk_f_Mfeed.all goodWord = true := by decide +kernel
theorem gd_v_f_Mfeed : ∀ w ∈ v_f_Mfeed, gdW w := fun w h => (List.mem_cons.mp h).elim (fun e => by rw [e]; exact good_of_word rfl) (fun h => (List.mem_append.mp h).elim (fun h => good_of_word (List.all_eq_true.mp gk_f_Mfeed w h)) (fun h => (List.mem_append.mp h).elim (gd_wsX120 w) (fun h => nomatch h)))
set_option maxHeartbeats 4000000 in
set_option maxRecDepth 100000 in
theorem f_Mfeed (l : Launch) (D : va_G) (cA : Nat → ClassId) (E : hp_N) (sz : Nat) (g : hp_M) (h : Nat) (hf : fr_Model cA g h) (x0 x1 x2 x3 x4 : Int32) : Met l yX12_feed v_f_Mfeed ({ frames := 0, cells := 0, slots := 0, locals := 0 }) (hp_Pc D vwCl (hp_Tl cA) E sz g [.ref h, .int x0, .int x1, .int x2, .int x3, .int x4]) (hp_Qi D vwCl (hp_Tl cA) sz g (fun r _ => r = 1)) 0 0 (hp_A g sz) := by
  refine hp_ofW (cc := cX12_feed) (maxL := 8) (ret := (some .boolean)) (by decide) rfl (Nat.le_of_ble_eq_true rfl) ?_
  intro pp ee ss mm bb mt cd ls cx hsz hw hl
  have hl : lv_has ls 8 [(0, .ref h), (1, .int x0), (2, .int x1), (3, .int x2), (4, .int x3), (5, .int x4)] := hl
  obtain ⟨r, hh, ht, hx⟩ := hf
  refine lv_aload_n cx.1 cx.2.1 dX12_feed_0 rfl (lv_at hl 0 rfl) ?_
  refine lv_iconst (v := 0) cx.1 cx.2.1 dX12_feed_1 (by decide) ?_
  obtain ⟨F2, eF2⟩ : ∃ F1, F1 = (md0 r).set 0 (.int 0) := ⟨_, rfl⟩
  have lF2 : F2.length = 137 := by rw [eF2, List.length_set]; exact (md0_len r)
  have vF2 : F2[0]? = some (.int 0) := by rw [eF2]; exact fl_self (by rw [(md0_len r)]; decide)
  refine hp_put (C := RX12) (T := TX12) (N := 137) (ci := 12) (fs' := F2) cx hw i_f_Mfeed_X12 tyX12_ok nmX12 rfl hh 0 (by decide) m_f_Mfeed_f268 rfl  rfl rfl (by rw [(md0_len r)]; decide) eF2.symm dX12_feed_2 (fun g1 H locs eg1 hw => ?_)
  have f3 : g1 h = some (.inr (12, F2)) := (by rw [eg1]; exact hp_up_self _ _ _)
  refine lv_aload_n cx.1 cx.2.1 dX12_feed_5 rfl (lv_at hl 0 rfl) ?_
  have v4 : F2[2]? = some (.int 0) := by rw [eF2]; exact (fl_ne (by decide)).trans (rfl)
  refine hp_get (C := RX12) (T := TX12) (N := 137) (ci := 12) cx hw i_f_Mfeed_X12 rfl f3 2 (by decide) m_f_Mfeed_f271 (v := .int 0) v4 dX12_feed_6 ?_
  refine lv_bipush (v := 20) cx.1 cx.2.1 dX12_feed_9 (by decide) ?_
  refine lv_iadd cx.1 cx.2.1 dX12_feed_11 ?_
  refine lv_topi (fun z5 ez5 => ?_)
  obtain rfl : z5 = 20 := ez5.trans (by decide)
  refine lv_sipush (v := 3000) cx.1 cx.2.1 dX12_feed_12 (by decide) ?_
  refine lv_icmp_le (tgt := 20) cx.1 cx.2.1 dX12_feed_15 (by decide) (fun c15_6 => ?_) (fun c15_6 => ?_)
  rotate_left
  · exact absurd (by decide) c15_6
  refine lv_iconst (v := 0) cx.1 cx.2.1 dX12_feed_20 (by decide) ?_
  refine lv_istore (lv' := [(6, .int 0), (0, .ref h), (1, .int x0), (2, .int x1), (3, .int x2), (4, .int x3), (5, .int x4)]) cx.1 cx.2.1 dX12_feed_21 hl (by decide) rfl (fun ls hl => ?_)
  refine lv_iload cx.1 cx.2.1 dX12_feed_23 (lv_at hl 0 rfl) ?_
  refine lv_bipush (v := 20) cx.1 cx.2.1 dX12_feed_25 (by decide) ?_
  refine lv_icmp_ge (tgt := 120) cx.1 cx.2.1 dX12_feed_27 (by decide) (fun c27_7 => ?_) (fun c27_7 => ?_)
  · exact absurd c27_7 (by decide)
  refine lv_iload cx.1 cx.2.1 dX12_feed_30 (lv_at hl 0 rfl) ?_
  refine lv_iconst (v := 4) cx.1 cx.2.1 dX12_feed_32 (by decide) ?_
  refine lv_icmp_ge (tgt := 40) cx.1 cx.2.1 dX12_feed_33 (by decide) (fun c33_8 => ?_) (fun c33_8 => ?_)
  · exact absurd c33_8 (by decide)
  refine lv_iload_n cx.1 cx.2.1 dX12_feed_36 rfl (lv_at hl 2 rfl) ?_
  refine lv_goto (tgt := 76) cx.1 cx.2.1 dX12_feed_37 (by decide) ?_
  refine lv_istore (lv' := [(7, .int x0), (6, .int 0), (0, .ref h), (1, .int x0), (2, .int x1), (3, .int x2), (4, .int x3), (5, .int x4)]) cx.1 cx.2.1 dX12_feed_76 hl (by decide) rfl (fun ls hl => ?_)
  refine lv_aload_n cx.1 cx.2.1 dX12_feed_78 rfl (lv_at hl 2 rfl) ?_
  have v9 : F2[1]? = some (.ref (r 1)) := by rw [eF2]; exact (fl_ne (by decide)).trans (rfl)
  refine hp_get (C := RX12) (T := TX12) (N := 137) (ci := 12) cx hw i_f_Mfeed_X12 rfl f3 1 (by decide) m_f_Mfeed_f9 (v := .ref (r 1)) v9 dX12_feed_79 ?_
  refine lv_aload_n cx.1 cx.2.1 dX12_feed_82 rfl (lv_at hl 2 rfl) ?_
  refine hp_get (C := RX12) (T := TX12) (N := 137) (ci := 12) cx hw i_f_Mfeed_X12 rfl f3 2 (by decide) m_f_Mfeed_f271 (v := .int 0) v4 dX12_feed_83 ?_
  refine lv_iload cx.1 cx.2.1 dX12_feed_86 (lv_at hl 0 rfl) ?_
  refine lv_bipush (v := 24) cx.1 cx.2.1 dX12_feed_88 (by decide) ?_
  refine lv_bipush (v := 8) cx.1 cx.2.1 dX12_feed_90 (by decide) ?_
  refine lv_iload cx.1 cx.2.1 dX12_feed_92 (lv_at hl 1 rfl) ?_
  refine lv_iconst (v := 4) cx.1 cx.2.1 dX12_feed_94 (by decide) ?_
  refine lv_irem cx.1 cx.2.1 dX12_feed_95 (by decide) ?_
  refine lv_topi (fun z10 ez10 => ?_)
  obtain rfl : z10 = 0 := ez10.trans (by decide)
  refine lv_imul cx.1 cx.2.1 dX12_feed_96 ?_
  refine lv_topi (fun z11 ez11 => ?_)
  obtain rfl : z11 = 0 := ez11.trans (by decide)
  refine lv_isub cx.1 cx.2.1 dX12_feed_97 ?_
  refine lv_topi (fun z12 ez12 => ?_)
  obtain rfl : z12 = 24 := ez12.trans (by decide)
  refine lv_ishr cx.1 cx.2.1 dX12_feed_98 ?_
  refine lv_sipush (v := 255) cx.1 cx.2.1 dX12_feed_99 (by decide) ?_
  refine lv_iand cx.1 cx.2.1 dX12_feed_102 ?_
  have f13 : g1 (r 1) = some (.inl (cA 1, 3000, .inl (fun _ => 0))) := (by rw [eg1]; exact (hp_up_ne _ _ (hp_neAO ht hh)).trans ht)
  refine hp_iast cx hw 1 f13 rfl (by unfold vp_in; decide) dX12_feed_103 (fun g14 H locs eg14 hw => ?_)
  have f15 : g14 (r 1) = some (.inl (cA 1, 3000, .inl (upd (fun _ => 0) (0 : Int32).toNatClampNeg ((x0 >>> (24 &&& 31)) &&& 255)))) := (by rw [eg14]; exact hp_up_self _ _ _)
  generalize (upd (fun _ => 0) (0 : Int32).toNatClampNeg ((x0 >>> (24 &&& 31)) &&& 255)) = fa16 at f15
  refine lv_aload_n cx.1 cx.2.1 dX12_feed_104 rfl (lv_at hl 2 rfl) ?_
  refine lv_dup cx.1 cx.2.1 dX12_feed_105 rfl ?_
  have f17 : g14 h = some (.inr (12, F2)) := (by rw [eg14]; exact (hp_up_ne _ _ (hp_neOA f3 f13)).trans f3)
  refine hp_get (C := RX12) (T := TX12) (N := 137) (ci := 12) cx hw i_f_Mfeed_X12 rfl f17 2 (by decide) m_f_Mfeed_f271 (v := .int 0) v4 dX12_feed_106 ?_
  refine lv_iconst (v := 1) cx.1 cx.2.1 dX12_feed_109 (by decide) ?_
  refine lv_iadd cx.1 cx.2.1 dX12_feed_110 ?_
  refine lv_topi (fun z18 ez18 => ?_)
  obtain rfl : z18 = 1 := ez18.trans (by decide)
  obtain ⟨F20, eF20⟩ : ∃ F1, F1 = F2.set 2 (.int 1) := ⟨_, rfl⟩
  have lF20 : F20.length = 137 := by rw [eF20, List.length_set]; exact lF2
  have vF20 : F20[2]? = some (.int 1) := by rw [eF20]; exact fl_self (by rw [lF2]; decide)
  refine hp_put (C := RX12) (T := TX12) (N := 137) (ci := 12) (fs' := F20) cx hw i_f_Mfeed_X12 tyX12_ok nmX12 rfl f17 2 (by decide) m_f_Mfeed_f271 rfl  rfl rfl (by rw [lF2]; decide) eF20.symm dX12_feed_111 (fun g19 H locs eg19 hw => ?_)
  have f21 : g19 h = some (.inr (12, F20)) := (by rw [eg19]; exact hp_up_self _ _ _)
  refine lv_iinc (v := 1) (lv' := [(6, .int 1), (7, .int x0), (0, .ref h), (1, .int x0), (2, .int x1), (3, .int x2), (4, .int x3), (5, .int x4)]) cx.1 cx.2.1 dX12_feed_114 hl (k := 1) rfl (by decide) (by decide) rfl (fun ls hl => ?_)
  refine lv_goto (tgt := 23) cx.1 cx.2.1 dX12_feed_117 (by decide) ?_
  refine lv_iload cx.1 cx.2.1 dX12_feed_23 (lv_at hl 0 rfl) ?_
  refine lv_bipush (v := 20) cx.1 cx.2.1 dX12_feed_25 (by decide) ?_
  refine lv_icmp_ge (tgt := 120) cx.1 cx.2.1 dX12_feed_27 (by decide) (fun c27_22 => ?_) (fun c27_22 => ?_)
  · exact absurd c27_22 (by decide)
  refine lv_iload cx.1 cx.2.1 dX12_feed_30 (lv_at hl 0 rfl) ?_
  refine lv_iconst (v := 4) cx.1 cx.2.1 dX12_feed_32 (by decide) ?_
  refine lv_icmp_ge (tgt := 40) cx.1 cx.2.1 dX12_feed_33 (by decide) (fun c33_23 => ?_) (fun c33_23 => ?_)
  · exact absurd c33_23 (by decide)
  refine lv_iload_n cx.1 cx.2.1 dX12_feed_36 rfl (lv_at hl 3 rfl) ?_
  refine lv_goto (tgt := 76) cx.1 cx.2.1 dX12_feed_37 (by decide) ?_
  refine lv_istore (lv' := [(7, .int x0), (6, .int 1), (0, .ref h), (1, .int x0), (2, .int x1), (3, .int x2), (4, .int x3), (5, .int x4)]) cx.1 cx.2.1 dX12_feed_76 hl (by decide) rfl (fun ls hl => ?_)
  refine lv_aload_n cx.1 cx.2.1 dX12_feed_78 rfl (lv_at hl 2 rfl) ?_
  have v24 : F20[1]? = some (.ref (r 1)) := by rw [eF20]; exact (fl_ne (by decide)).trans v9
  refine hp_get (C := RX12) (T := TX12) (N := 137) (ci := 12) cx hw i_f_Mfeed_X12 rfl f21 1 (by decide) m_f_Mfeed_f9 (v := .ref (r 1)) v24 dX12_feed_79 ?_
  refine lv_aload_n cx.1 cx.2.1 dX12_feed_82 rfl (lv_at hl 2 rfl) ?_
  refine hp_get (C := RX12) (T := TX12) (N := 137) (ci := 12) cx hw i_f_Mfeed_X12 rfl f21 2 (by decide) m_f_Mfeed_f271 (v := .int 1) vF20 dX12_feed_83 ?_
  refine lv_iload cx.1 cx.2.1 dX12_feed_86 (lv_at hl 0 rfl) ?_
  refine lv_bipush (v := 24) cx.1 cx.2.1 dX12_feed_88 (by decide) ?_
  refine lv_bipush (v := 8) cx.1 cx.2.1 dX12_feed_90 (by decide) ?_
  refine lv_iload cx.1 cx.2.1 dX12_feed_92 (lv_at hl 1 rfl) ?_
  refine lv_iconst (v := 4) cx.1 cx.2.1 dX12_feed_94 (by decide) ?_
  refine lv_irem cx.1 cx.2.1 dX12_feed_95 (by decide) ?_
  refine lv_topi (fun z25 ez25 => ?_)
  obtain rfl : z25 = 1 := ez25.trans (by decide)
  refine lv_imul cx.1 cx.2.1 dX12_feed_96 ?_
  refine lv_topi (fun z26 ez26 => ?_)
  obtain rfl : z26 = 8 := ez26.trans (by decide)
  refine lv_isub cx.1 cx.2.1 dX12_feed_97 ?_
  refine lv_topi (fun z27 ez27 => ?_)
  obtain rfl : z27 = 16 := ez27.trans (by decide)
  refine lv_ishr cx.1 cx.2.1 dX12_feed_98 ?_
  refine lv_sipush (v := 255) cx.1 cx.2.1 dX12_feed_99 (by decide) ?_
  refine lv_iand cx.1 cx.2.1 dX12_feed_102 ?_
  have f28 : g19 (r 1) = some (.inl (cA 1, 3000, .inl fa16)) := (by rw [eg19]; exact (hp_up_ne _ _ (hp_neAO f15 f17)).trans f15)
  refine hp_iast cx hw 1 f28 rfl (by unfold vp_in; decide) dX12_feed_103 (fun g29 H locs eg29 hw => ?_)
  have f30 : g29 (r 1) = some (.inl (cA 1, 3000, .inl (upd fa16 (1 : Int32).toNatClampNeg ((x0 >>> (16 &&& 31)) &&& 255)))) := (by rw [eg29]; exact hp_up_self _ _ _)
  generalize (upd fa16 (1 : Int32).toNatClampNeg ((x0 >>> (16 &&& 31)) &&& 255)) = fa31 at f30
  refine lv_aload_n cx.1 cx.2.1 dX12_feed_104 rfl (lv_at hl 2 rfl) ?_
  refine lv_dup cx.1 cx.2.1 dX12_feed_105 rfl ?_
  have f32 : g29 h = some (.inr (12, F20)) := (by rw [eg29]; exact (hp_up_ne _ _ (hp_neOA f21 f28)).trans f21)
  refine hp_get (C := RX12) (T := TX12) (N := 137) (ci := 12) cx hw i_f_Mfeed_X12 rfl f32 2 (by decide) m_f_Mfeed_f271 (v := .int 1) vF20 dX12_feed_106 ?_
  refine lv_iconst (v := 1) cx.1 cx.2.1 dX12_feed_109 (by decide) ?_
  refine lv_iadd cx.1 cx.2.1 dX12_feed_110 ?_
  refine lv_topi (fun z33 ez33 => ?_)
  obtain rfl : z33 = 2 := ez33.trans (by decide)
  obtain ⟨F35, eF35⟩ : ∃ F1, F1 = F20.set 2 (.int 2) := ⟨_, rfl⟩
  have lF35 : F35.length = 137 := by rw [eF35, List.length_set]; exact lF20
  have vF35 : F35[2]? = some (.int 2) := by rw [eF35]; exact fl_self (by rw [lF20]; decide)
  refine hp_put (C := RX12) (T := TX12) (N := 137) (ci := 12) (fs' := F35) cx hw i_f_Mfeed_X12 tyX12_ok nmX12 rfl f32 2 (by decide) m_f_Mfeed_f271 rfl  rfl rfl (by rw [lF20]; decide) eF35.symm dX12_feed_111 (fun g34 H locs eg34 hw => ?_)
  have f36 : g34 h = some (.inr (12, F35)) := (by rw [eg34]; exact hp_up_self _ _ _)
  refine lv_iinc (v := 2) (lv' := [(6, .int 2), (7, .int x0), (0, .ref h), (1, .int x0), (2, .int x1), (3, .int x2), (4, .int x3), (5, .int x4)]) cx.1 cx.2.1 dX12_feed_114 hl (k := 1) rfl (by decide) (by decide) rfl (fun ls hl => ?_)
  refine lv_goto (tgt := 23) cx.1 cx.2.1 dX12_feed_117 (by decide) ?_
  refine lv_iload cx.1 cx.2.1 dX12_feed_23 (lv_at hl 0 rfl) ?_
  refine lv_bipush (v := 20) cx.1 cx.2.1 dX12_feed_25 (by decide) ?_
  refine lv_icmp_ge (tgt := 120) cx.1 cx.2.1 dX12_feed_27 (by decide) (fun c27_37 => ?_) (fun c27_37 => ?_)
  · exact absurd c27_37 (by decide)
  refine lv_iload cx.1 cx.2.1 dX12_feed_30 (lv_at hl 0 rfl) ?_
  refine lv_iconst (v := 4) cx.1 cx.2.1 dX12_feed_32 (by decide) ?_
  refine lv_icmp_ge (tgt := 40) cx.1 cx.2.1 dX12_feed_33 (by decide) (fun c33_38 => ?_) (fun c33_38 => ?_)
  · exact absurd c33_38 (by decide)
  refine lv_iload_n cx.1 cx.2.1 dX12_feed_36 rfl (lv_at hl 3 rfl) ?_
  refine lv_goto (tgt := 76) cx.1 cx.2.1 dX12_feed_37 (by decide) ?_
  refine lv_istore (lv' := [(7, .int x0), (6, .int 2), (0, .ref h), (1, .int x0), (2, .int x1), (3, .int x2), (4, .int x3), (5, .int x4)]) cx.1 cx.2.1 dX12_feed_76 hl (by decide) rfl (fun ls hl => ?_)
  refine lv_aload_n cx.1 cx.2.1 dX12_feed_78 rfl (lv_at hl 2 rfl) ?_
  have v39 : F35[1]? = some (.ref (r 1)) := by rw [eF35]; exact (fl_ne (by decide)).trans v24
  refine hp_get (C := RX12) (T := TX12) (N := 137) (ci := 12) cx hw i_f_Mfeed_X12 rfl f36 1 (by decide) m_f_Mfeed_f9 (v := .ref (r 1)) v39 dX12_feed_79 ?_
  refine lv_aload_n cx.1 cx.2.1 dX12_feed_82 rfl (lv_at hl 2 rfl) ?_
  refine hp_get (C := RX12) (T := TX12) (N := 137) (ci := 12) cx hw i_f_Mfeed_X12 rfl f36 2 (by decide) m_f_Mfeed_f271 (v := .int 2) vF35 dX12_feed_83 ?_
  refine lv_iload cx.1 cx.2.1 dX12_feed_86 (lv_at hl 0 rfl) ?_
  refine lv_bipush (v := 24) cx.1 cx.2.1 dX12_feed_88 (by decide) ?_
  refine lv_bipush (v := 8) cx.1 cx.2.1 dX12_feed_90 (by decide) ?_
  refine lv_iload cx.1 cx.2.1 dX12_feed_92 (lv_at hl 1 rfl) ?_
  refine lv_iconst (v := 4) cx.1 cx.2.1 dX12_feed_94 (by decide) ?_
  refine lv_irem cx.1 cx.2.1 dX12_feed_95 (by decide) ?_
  refine lv_topi (fun z40 ez40 => ?_)
  obtain rfl : z40 = 2 := ez40.trans (by decide)
  refine lv_imul cx.1 cx.2.1 dX12_feed_96 ?_
  refine lv_topi (fun z41 ez41 => ?_)
  obtain rfl : z41 = 16 := ez41.trans (by decide)
  refine lv_isub cx.1 cx.2.1 dX12_feed_97 ?_
  refine lv_topi (fun z42 ez42 => ?_)
  obtain rfl : z42 = 8 := ez42.trans (by decide)
  refine lv_ishr cx.1 cx.2.1 dX12_feed_98 ?_
  refine lv_sipush (v := 255) cx.1 cx.2.1 dX12_feed_99 (by decide) ?_
  refine lv_iand cx.1 cx.2.1 dX12_feed_102 ?_
  have f43 : g34 (r 1) = some (.inl (cA 1, 3000, .inl fa31)) := (by rw [eg34]; exact (hp_up_ne _ _ (hp_neAO f30 f32)).trans f30)
  refine hp_iast cx hw 1 f43 rfl (by unfold vp_in; decide) dX12_feed_103 (fun g44 H locs eg44 hw => ?_)
  have f45 : g44 (r 1) = some (.inl (cA 1, 3000, .inl (upd fa31 (2 : Int32).toNatClampNeg ((x0 >>> (8 &&& 31)) &&& 255)))) := (by rw [eg44]; exact hp_up_self _ _ _)
  generalize (upd fa31 (2 : Int32).toNatClampNeg ((x0 >>> (8 &&& 31)) &&& 255)) = fa46 at f45
  refine lv_aload_n cx.1 cx.2.1 dX12_feed_104 rfl (lv_at hl 2 rfl) ?_
  refine lv_dup cx.1 cx.2.1 dX12_feed_105 rfl ?_
  have f47 : g44 h = some (.inr (12, F35)) := (by rw [eg44]; exact (hp_up_ne _ _ (hp_neOA f36 f43)).trans f36)
  refine hp_get (C := RX12) (T := TX12) (N := 137) (ci := 12) cx hw i_f_Mfeed_X12 rfl f47 2 (by decide) m_f_Mfeed_f271 (v := .int 2) vF35 dX12_feed_106 ?_
  refine lv_iconst (v := 1) cx.1 cx.2.1 dX12_feed_109 (by decide) ?_
  refine lv_iadd cx.1 cx.2.1 dX12_feed_110 ?_
  refine lv_topi (fun z48 ez48 => ?_)
  obtain rfl : z48 = 3 := ez48.trans (by decide)
  obtain ⟨F50, eF50⟩ : ∃ F1, F1 = F35.set 2 (.int 3) := ⟨_, rfl⟩
  have lF50 : F50.length = 137 := by rw [eF50, List.length_set]; exact lF35
  have vF50 : F50[2]? = some (.int 3) := by rw [eF50]; exact fl_self (by rw [lF35]; decide)
  refine hp_put (C := RX12) (T := TX12) (N := 137) (ci := 12) (fs' := F50) cx hw i_f_Mfeed_X12 tyX12_ok nmX12 rfl f47 2 (by decide) m_f_Mfeed_f271 rfl  rfl rfl (by rw [lF35]; decide) eF50.symm dX12_feed_111 (fun g49 H locs eg49 hw => ?_)
  have f51 : g49 h = some (.inr (12, F50)) := (by rw [eg49]; exact hp_up_self _ _ _)
  refine lv_iinc (v := 3) (lv' := [(6, .int 3), (7, .int x0), (0, .ref h), (1, .int x0), (2, .int x1), (3, .int x2), (4, .int x3), (5, .int x4)]) cx.1 cx.2.1 dX12_feed_114 hl (k := 1) rfl (by decide) (by decide) rfl (fun ls hl => ?_)
  refine lv_goto (tgt := 23) cx.1 cx.2.1 dX12_feed_117 (by decide) ?_
  refine lv_iload cx.1 cx.2.1 dX12_feed_23 (lv_at hl 0 rfl) ?_
  refine lv_bipush (v := 20) cx.1 cx.2.1 dX12_feed_25 (by decide) ?_
  refine lv_icmp_ge (tgt := 120) cx.1 cx.2.1 dX12_feed_27 (by decide) (fun c27_52 => ?_) (fun c27_52 => ?_)
  · exact absurd c27_52 (by decide)
  refine lv_iload cx.1 cx.2.1 dX12_feed_30 (lv_at hl 0 rfl) ?_
  refine lv_iconst (v := 4) cx.1 cx.2.1 dX12_feed_32 (by decide) ?_
  refine lv_icmp_ge (tgt := 40) cx.1 cx.2.1 dX12_feed_33 (by decide) (fun c33_53 => ?_) (fun c33_53 => ?_)
  · exact absurd c33_53 (by decide)
  refine lv_iload_n cx.1 cx.2.1 dX12_feed_36 rfl (lv_at hl 3 rfl) ?_
  refine lv_goto (tgt := 76) cx.1 cx.2.1 dX12_feed_37 (by decide) ?_
  refine lv_istore (lv' := [(7, .int x0), (6, .int 3), (0, .ref h), (1, .int x0), (2, .int x1), (3, .int x2), (4, .int x3), (5, .int x4)]) cx.1 cx.2.1 dX12_feed_76 hl (by decide) rfl (fun ls hl => ?_)
  refine lv_aload_n cx.1 cx.2.1 dX12_feed_78 rfl (lv_at hl 2 rfl) ?_
  have v54 : F50[1]? = some (.ref (r 1)) := by rw [eF50]; exact (fl_ne (by decide)).trans v39
  refine hp_get (C := RX12) (T := TX12) (N := 137) (ci := 12) cx hw i_f_Mfeed_X12 rfl f51 1 (by decide) m_f_Mfeed_f9 (v := .ref (r 1)) v54 dX12_feed_79 ?_
  refine lv_aload_n cx.1 cx.2.1 dX12_feed_82 rfl (lv_at hl 2 rfl) ?_
  refine hp_get (C := RX12) (T := TX12) (N := 137) (ci := 12) cx hw i_f_Mfeed_X12 rfl f51 2 (by decide) m_f_Mfeed_f271 (v := .int 3) vF50 dX12_feed_83 ?_
  refine lv_iload cx.1 cx.2.1 dX12_feed_86 (lv_at hl 0 rfl) ?_
  refine lv_bipush (v := 24) cx.1 cx.2.1 dX12_feed_88 (by decide) ?_
  refine lv_bipush (v := 8) cx.1 cx.2.1 dX12_feed_90 (by decide) ?_
  refine lv_iload cx.1 cx.2.1 dX12_feed_92 (lv_at hl 1 rfl) ?_
  refine lv_iconst (v := 4) cx.1 cx.2.1 dX12_feed_94 (by decide) ?_
  refine lv_irem cx.1 cx.2.1 dX12_feed_95 (by decide) ?_
  refine lv_topi (fun z55 ez55 => ?_)
  obtain rfl : z55 = 3 := ez55.trans (by decide)
  refine lv_imul cx.1 cx.2.1 dX12_feed_96 ?_
  refine lv_topi (fun z56 ez56 => ?_)
  obtain rfl : z56 = 24 := ez56.trans (by decide)
  refine lv_isub cx.1 cx.2.1 dX12_feed_97 ?_
  refine lv_topi (fun z57 ez57 => ?_)
  obtain rfl : z57 = 0 := ez57.trans (by decide)
  refine lv_ishr cx.1 cx.2.1 dX12_feed_98 ?_
  refine lv_sipush (v := 255) cx.1 cx.2.1 dX12_feed_99 (by decide) ?_
  refine lv_iand cx.1 cx.2.1 dX12_feed_102 ?_
  have f58 : g49 (r 1) = some (.inl (cA 1, 3000, .inl fa46)) := (by rw [eg49]; exact (hp_up_ne _ _ (hp_neAO f45 f47)).trans f45)
  refine hp_iast cx hw 1 f58 rfl (by unfold vp_in; decide) dX12_feed_103 (fun g59 H locs eg59 hw => ?_)
  have f60 : g59 (r 1) = some (.inl (cA 1, 3000, .inl (upd fa46 (3 : Int32).toNatClampNeg ((x0 >>> (0 &&& 31)) &&& 255)))) := (by rw [eg59]; exact hp_up_self _ _ _)
  generalize (upd fa46 (3 : Int32).toNatClampNeg ((x0 >>> (0 &&& 31)) &&& 255)) = fa61 at f60
  refine lv_aload_n cx.1 cx.2.1 dX12_feed_104 rfl (lv_at hl 2 rfl) ?_
  refine lv_dup cx.1 cx.2.1 dX12_feed_105 rfl ?_
  have f62 : g59 h = some (.inr (12, F50)) := (by rw [eg59]; exact (hp_up_ne _ _ (hp_neOA f51 f58)).trans f51)
  refine hp_get (C := RX12) (T := TX12) (N := 137) (ci := 12) cx hw i_f_Mfeed_X12 rfl f62 2 (by decide) m_f_Mfeed_f271 (v := .int 3) vF50 dX12_feed_106 ?_
  refine lv_iconst (v := 1) cx.1 cx.2.1 dX12_feed_109 (by decide) ?_
  refine lv_iadd cx.1 cx.2.1 dX12_feed_110 ?_
  refine lv_topi (fun z63 ez63 => ?_)
  obtain rfl : z63 = 4 := ez63.trans (by decide)
  obtain ⟨F65, eF65⟩ : ∃ F1, F1 = F50.set 2 (.int 4) := ⟨_, rfl⟩
  have lF65 : F65.length = 137 := by rw [eF65, List.length_set]; exact lF50
  have vF65 : F65[2]? = some (.int 4) := by rw [eF65]; exact fl_self (by rw [lF50]; decide)
  refine hp_put (C := RX12) (T := TX12) (N := 137) (ci := 12) (fs' := F65) cx hw i_f_Mfeed_X12 tyX12_ok nmX12 rfl f62 2 (by decide) m_f_Mfeed_f271 rfl  rfl rfl (by rw [lF50]; decide) eF65.symm dX12_feed_111 (fun g64 H locs eg64 hw => ?_)
  have f66 : g64 h = some (.inr (12, F65)) := (by rw [eg64]; exact hp_up_self _ _ _)
  refine lv_iinc (v := 4) (lv' := [(6, .int 4), (7, .int x0), (0, .ref h), (1, .int x0), (2, .int x1), (3, .int x2), (4, .int x3), (5, .int x4)]) cx.1 cx.2.1 dX12_feed_114 hl (k := 1) rfl (by decide) (by decide) rfl (fun ls hl => ?_)
  refine lv_goto (tgt := 23) cx.1 cx.2.1 dX12_feed_117 (by decide) ?_
  refine lv_iload cx.1 cx.2.1 dX12_feed_23 (lv_at hl 0 rfl) ?_
  refine lv_bipush (v := 20) cx.1 cx.2.1 dX12_feed_25 (by decide) ?_
  refine lv_icmp_ge (tgt := 120) cx.1 cx.2.1 dX12_feed_27 (by decide) (fun c27_67 => ?_) (fun c27_67 => ?_)
  · exact absurd c27_67 (by decide)
  refine lv_iload cx.1 cx.2.1 dX12_feed_30 (lv_at hl 0 rfl) ?_
  refine lv_iconst (v := 4) cx.1 cx.2.1 dX12_feed_32 (by decide) ?_
  refine lv_icmp_ge (tgt := 40) cx.1 cx.2.1 dX12_feed_33 (by decide) (fun c33_68 => ?_) (fun c33_68 => ?_)
  rotate_left
  · exact absurd (by decide) c33_68
  refine lv_iload cx.1 cx.2.1 dX12_feed_40 (lv_at hl 0 rfl) ?_
  refine lv_bipush (v := 8) cx.1 cx.2.1 dX12_feed_42 (by decide) ?_
  refine lv_icmp_ge (tgt := 51) cx.1 cx.2.1 dX12_feed_44 (by decide) (fun c44_69 => ?_) (fun c44_69 => ?_)
  · exact absurd c44_69 (by decide)
  refine lv_iload_n cx.1 cx.2.1 dX12_feed_47 rfl (lv_at hl 4 rfl) ?_
  refine lv_goto (tgt := 76) cx.1 cx.2.1 dX12_feed_48 (by decide) ?_
  refine lv_istore (lv' := [(7, .int x1), (6, .int 4), (0, .ref h), (1, .int x0), (2, .int x1), (3, .int x2), (4, .int x3), (5, .int x4)]) cx.1 cx.2.1 dX12_feed_76 hl (by decide) rfl (fun ls hl => ?_)
  refine lv_aload_n cx.1 cx.2.1 dX12_feed_78 rfl (lv_at hl 2 rfl) ?_
  have v70 : F65[1]? = some (.ref (r 1)) := by rw [eF65]; exact (fl_ne (by decide)).trans v54
  refine hp_get (C := RX12) (T := TX12) (N := 137) (ci := 12) cx hw i_f_Mfeed_X12 rfl f66 1 (by decide) m_f_Mfeed_f9 (v := .ref (r 1)) v70 dX12_feed_79 ?_
  refine lv_aload_n cx.1 cx.2.1 dX12_feed_82 rfl (lv_at hl 2 rfl) ?_
  refine hp_get (C := RX12) (T := TX12) (N := 137) (ci := 12) cx hw i_f_Mfeed_X12 rfl f66 2 (by decide) m_f_Mfeed_f271 (v := .int 4) vF65 dX12_feed_83 ?_
  refine lv_iload cx.1 cx.2.1 dX12_feed_86 (lv_at hl 0 rfl) ?_
  refine lv_bipush (v := 24) cx.1 cx.2.1 dX12_feed_88 (by decide) ?_
  refine lv_bipush (v := 8) cx.1 cx.2.1 dX12_feed_90 (by decide) ?_
  refine lv_iload cx.1 cx.2.1 dX12_feed_92 (lv_at hl 1 rfl) ?_
  refine lv_iconst (v := 4) cx.1 cx.2.1 dX12_feed_94 (by decide) ?_
  refine lv_irem cx.1 cx.2.1 dX12_feed_95 (by decide) ?_
  refine lv_topi (fun z71 ez71 => ?_)
  obtain rfl : z71 = 0 := ez71.trans (by decide)
  refine lv_imul cx.1 cx.2.1 dX12_feed_96 ?_
  refine lv_topi (fun z72 ez72 => ?_)
  obtain rfl : z72 = 0 := ez72.trans (by decide)
  refine lv_isub cx.1 cx.2.1 dX12_feed_97 ?_
  refine lv_topi (fun z73 ez73 => ?_)
  obtain rfl : z73 = 24 := ez73.trans (by decide)
  refine lv_ishr cx.1 cx.2.1 dX12_feed_98 ?_
  refine lv_sipush (v := 255) cx.1 cx.2.1 dX12_feed_99 (by decide) ?_
  refine lv_iand cx.1 cx.2.1 dX12_feed_102 ?_
  have f74 : g64 (r 1) = some (.inl (cA 1, 3000, .inl fa61)) := (by rw [eg64]; exact (hp_up_ne _ _ (hp_neAO f60 f62)).trans f60)
  refine hp_iast cx hw 1 f74 rfl (by unfold vp_in; decide) dX12_feed_103 (fun g75 H locs eg75 hw => ?_)
  have f76 : g75 (r 1) = some (.inl (cA 1, 3000, .inl (upd fa61 (4 : Int32).toNatClampNeg ((x1 >>> (24 &&& 31)) &&& 255)))) := (by rw [eg75]; exact hp_up_self _ _ _)
  generalize (upd fa61 (4 : Int32).toNatClampNeg ((x1 >>> (24 &&& 31)) &&& 255)) = fa77 at f76
  refine lv_aload_n cx.1 cx.2.1 dX12_feed_104 rfl (lv_at hl 2 rfl) ?_
  refine lv_dup cx.1 cx.2.1 dX12_feed_105 rfl ?_
  have f78 : g75 h = some (.inr (12, F65)) := (by rw [eg75]; exact (hp_up_ne _ _ (hp_neOA f66 f74)).trans f66)
  refine hp_get (C := RX12) (T := TX12) (N := 137) (ci := 12) cx hw i_f_Mfeed_X12 rfl f78 2 (by decide) m_f_Mfeed_f271 (v := .int 4) vF65 dX12_feed_106 ?_
  refine lv_iconst (v := 1) cx.1 cx.2.1 dX12_feed_109 (by decide) ?_
  refine lv_iadd cx.1 cx.2.1 dX12_feed_110 ?_
  refine lv_topi (fun z79 ez79 => ?_)
  obtain rfl : z79 = 5 := ez79.trans (by decide)
  obtain ⟨F81, eF81⟩ : ∃ F1, F1 = F65.set 2 (.int 5) := ⟨_, rfl⟩
  have lF81 : F81.length = 137 := by rw [eF81, List.length_set]; exact lF65
  have vF81 : F81[2]? = some (.int 5) := by rw [eF81]; exact fl_self (by rw [lF65]; decide)
  refine hp_put (C := RX12) (T := TX12) (N := 137) (ci := 12) (fs' := F81) cx hw i_f_Mfeed_X12 tyX12_ok nmX12 rfl f78 2 (by decide) m_f_Mfeed_f271 rfl  rfl rfl (by rw [lF65]; decide) eF81.symm dX12_feed_111 (fun g80 H locs eg80 hw => ?_)
  have f82 : g80 h = some (.inr (12, F81)) := (by rw [eg80]; exact hp_up_self _ _ _)
  refine lv_iinc (v := 5) (lv' := [(6, .int 5), (7, .int x1), (0, .ref h), (1, .int x0), (2, .int x1), (3, .int x2), (4, .int x3), (5, .int x4)]) cx.1 cx.2.1 dX12_feed_114 hl (k := 1) rfl (by decide) (by decide) rfl (fun ls hl => ?_)
  refine lv_goto (tgt := 23) cx.1 cx.2.1 dX12_feed_117 (by decide) ?_
  refine lv_iload cx.1 cx.2.1 dX12_feed_23 (lv_at hl 0 rfl) ?_
  refine lv_bipush (v := 20) cx.1 cx.2.1 dX12_feed_25 (by decide) ?_
  refine lv_icmp_ge (tgt := 120) cx.1 cx.2.1 dX12_feed_27 (by decide) (fun c27_83 => ?_) (fun c27_83 => ?_)
  · exact absurd c27_83 (by decide)
  refine lv_iload cx.1 cx.2.1 dX12_feed_30 (lv_at hl 0 rfl) ?_
  refine lv_iconst (v := 4) cx.1 cx.2.1 dX12_feed_32 (by decide) ?_
  refine lv_icmp_ge (tgt := 40) cx.1 cx.2.1 dX12_feed_33 (by decide) (fun c33_84 => ?_) (fun c33_84 => ?_)
  rotate_left
  · exact absurd (by decide) c33_84
  refine lv_iload cx.1 cx.2.1 dX12_feed_40 (lv_at hl 0 rfl) ?_
  refine lv_bipush (v := 8) cx.1 cx.2.1 dX12_feed_42 (by decide) ?_
  refine lv_icmp_ge (tgt := 51) cx.1 cx.2.1 dX12_feed_44 (by decide) (fun c44_85 => ?_) (fun c44_85 => ?_)
  · exact absurd c44_85 (by decide)
  refine lv_iload_n cx.1 cx.2.1 dX12_feed_47 rfl (lv_at hl 4 rfl) ?_
  refine lv_goto (tgt := 76) cx.1 cx.2.1 dX12_feed_48 (by decide) ?_
  refine lv_istore (lv' := [(7, .int x1), (6, .int 5), (0, .ref h), (1, .int x0), (2, .int x1), (3, .int x2), (4, .int x3), (5, .int x4)]) cx.1 cx.2.1 dX12_feed_76 hl (by decide) rfl (fun ls hl => ?_)
  refine lv_aload_n cx.1 cx.2.1 dX12_feed_78 rfl (lv_at hl 2 rfl) ?_
  have v86 : F81[1]? = some (.ref (r 1)) := by rw [eF81]; exact (fl_ne (by decide)).trans v70
  refine hp_get (C := RX12) (T := TX12) (N := 137) (ci := 12) cx hw i_f_Mfeed_X12 rfl f82 1 (by decide) m_f_Mfeed_f9 (v := .ref (r 1)) v86 dX12_feed_79 ?_
  refine lv_aload_n cx.1 cx.2.1 dX12_feed_82 rfl (lv_at hl 2 rfl) ?_
  refine hp_get (C := RX12) (T := TX12) (N := 137) (ci := 12) cx hw i_f_Mfeed_X12 rfl f82 2 (by decide) m_f_Mfeed_f271 (v := .int 5) vF81 dX12_feed_83 ?_
  refine lv_iload cx.1 cx.2.1 dX12_feed_86 (lv_at hl 0 rfl) ?_
  refine lv_bipush (v := 24) cx.1 cx.2.1 dX12_feed_88 (by decide) ?_
  refine lv_bipush (v := 8) cx.1 cx.2.1 dX12_feed_90 (by decide) ?_
  refine lv_iload cx.1 cx.2.1 dX12_feed_92 (lv_at hl 1 rfl) ?_
  refine lv_iconst (v := 4) cx.1 cx.2.1 dX12_feed_94 (by decide) ?_
  refine lv_irem cx.1 cx.2.1 dX12_feed_95 (by decide) ?_
  refine lv_topi (fun z87 ez87 => ?_)
  obtain rfl : z87 = 1 := ez87.trans (by decide)
  refine lv_imul cx.1 cx.2.1 dX12_feed_96 ?_
  refine lv_topi (fun z88 ez88 => ?_)
  obtain rfl : z88 = 8 := ez88.trans (by decide)
  refine lv_isub cx.1 cx.2.1 dX12_feed_97 ?_
  refine lv_topi (fun z89 ez89 => ?_)
  obtain rfl : z89 = 16 := ez89.trans (by decide)
  refine lv_ishr cx.1 cx.2.1 dX12_feed_98 ?_
  refine lv_sipush (v := 255) cx.1 cx.2.1 dX12_feed_99 (by decide) ?_
  refine lv_iand cx.1 cx.2.1 dX12_feed_102 ?_
  have f90 : g80 (r 1) = some (.inl (cA 1, 3000, .inl fa77)) := (by rw [eg80]; exact (hp_up_ne _ _ (hp_neAO f76 f78)).trans f76)
  refine hp_iast cx hw 1 f90 rfl (by unfold vp_in; decide) dX12_feed_103 (fun g91 H locs eg91 hw => ?_)
  have f92 : g91 (r 1) = some (.inl (cA 1, 3000, .inl (upd fa77 (5 : Int32).toNatClampNeg ((x1 >>> (16 &&& 31)) &&& 255)))) := (by rw [eg91]; exact hp_up_self _ _ _)
  generalize (upd fa77 (5 : Int32).toNatClampNeg ((x1 >>> (16 &&& 31)) &&& 255)) = fa93 at f92
  refine lv_aload_n cx.1 cx.2.1 dX12_feed_104 rfl (lv_at hl 2 rfl) ?_
  refine lv_dup cx.1 cx.2.1 dX12_feed_105 rfl ?_
  have f94 : g91 h = some (.inr (12, F81)) := (by rw [eg91]; exact (hp_up_ne _ _ (hp_neOA f82 f90)).trans f82)
  refine hp_get (C := RX12) (T := TX12) (N := 137) (ci := 12) cx hw i_f_Mfeed_X12 rfl f94 2 (by decide) m_f_Mfeed_f271 (v := .int 5) vF81 dX12_feed_106 ?_
  refine lv_iconst (v := 1) cx.1 cx.2.1 dX12_feed_109 (by decide) ?_
  refine lv_iadd cx.1 cx.2.1 dX12_feed_110 ?_
  refine lv_topi (fun z95 ez95 => ?_)
  obtain rfl : z95 = 6 := ez95.trans (by decide)
  obtain ⟨F97, eF97⟩ : ∃ F1, F1 = F81.set 2 (.int 6) := ⟨_, rfl⟩
  have lF97 : F97.length = 137 := by rw [eF97, List.length_set]; exact lF81
  have vF97 : F97[2]? = some (.int 6) := by rw [eF97]; exact fl_self (by rw [lF81]; decide)
  refine hp_put (C := RX12) (T := TX12) (N := 137) (ci := 12) (fs' := F97) cx hw i_f_Mfeed_X12 tyX12_ok nmX12 rfl f94 2 (by decide) m_f_Mfeed_f271 rfl  rfl rfl (by rw [lF81]; decide) eF97.symm dX12_feed_111 (fun g96 H locs eg96 hw => ?_)
  have f98 : g96 h = some (.inr (12, F97)) := (by rw [eg96]; exact hp_up_self _ _ _)
  refine lv_iinc (v := 6) (lv' := [(6, .int 6), (7, .int x1), (0, .ref h), (1, .int x0), (2, .int x1), (3, .int x2), (4, .int x3), (5, .int x4)]) cx.1 cx.2.1 dX12_feed_114 hl (k := 1) rfl (by decide) (by decide) rfl (fun ls hl => ?_)
  refine lv_goto (tgt := 23) cx.1 cx.2.1 dX12_feed_117 (by decide) ?_
  refine lv_iload cx.1 cx.2.1 dX12_feed_23 (lv_at hl 0 rfl) ?_
  refine lv_bipush (v := 20) cx.1 cx.2.1 dX12_feed_25 (by decide) ?_
  refine lv_icmp_ge (tgt := 120) cx.1 cx.2.1 dX12_feed_27 (by decide) (fun c27_99 => ?_) (fun c27_99 => ?_)
  · exact absurd c27_99 (by decide)
  refine lv_iload cx.1 cx.2.1 dX12_feed_30 (lv_at hl 0 rfl) ?_
  refine lv_iconst (v := 4) cx.1 cx.2.1 dX12_feed_32 (by decide) ?_
  refine lv_icmp_ge (tgt := 40) cx.1 cx.2.1 dX12_feed_33 (by decide) (fun c33_100 => ?_) (fun c33_100 => ?_)
  rotate_left
  · exact absurd (by decide) c33_100
  refine lv_iload cx.1 cx.2.1 dX12_feed_40 (lv_at hl 0 rfl) ?_
  refine lv_bipush (v := 8) cx.1 cx.2.1 dX12_feed_42 (by decide) ?_
  refine lv_icmp_ge (tgt := 51) cx.1 cx.2.1 dX12_feed_44 (by decide) (fun c44_101 => ?_) (fun c44_101 => ?_)
  · exact absurd c44_101 (by decide)
  refine lv_iload_n cx.1 cx.2.1 dX12_feed_47 rfl (lv_at hl 4 rfl) ?_
  refine lv_goto (tgt := 76) cx.1 cx.2.1 dX12_feed_48 (by decide) ?_
  refine lv_istore (lv' := [(7, .int x1), (6, .int 6), (0, .ref h), (1, .int x0), (2, .int x1), (3, .int x2), (4, .int x3), (5, .int x4)]) cx.1 cx.2.1 dX12_feed_76 hl (by decide) rfl (fun ls hl => ?_)
  refine lv_aload_n cx.1 cx.2.1 dX12_feed_78 rfl (lv_at hl 2 rfl) ?_
  have v102 : F97[1]? = some (.ref (r 1)) := by rw [eF97]; exact (fl_ne (by decide)).trans v86
  refine hp_get (C := RX12) (T := TX12) (N := 137) (ci := 12) cx hw i_f_Mfeed_X12 rfl f98 1 (by decide) m_f_Mfeed_f9 (v := .ref (r 1)) v102 dX12_feed_79 ?_
  refine lv_aload_n cx.1 cx.2.1 dX12_feed_82 rfl (lv_at hl 2 rfl) ?_
  refine hp_get (C := RX12) (T := TX12) (N := 137) (ci := 12) cx hw i_f_Mfeed_X12 rfl f98 2 (by decide) m_f_Mfeed_f271 (v := .int 6) vF97 dX12_feed_83 ?_
  refine lv_iload cx.1 cx.2.1 dX12_feed_86 (lv_at hl 0 rfl) ?_
  refine lv_bipush (v := 24) cx.1 cx.2.1 dX12_feed_88 (by decide) ?_
  refine lv_bipush (v := 8) cx.1 cx.2.1 dX12_feed_90 (by decide) ?_
  refine lv_iload cx.1 cx.2.1 dX12_feed_92 (lv_at hl 1 rfl) ?_
  refine lv_iconst (v := 4) cx.1 cx.2.1 dX12_feed_94 (by decide) ?_
  refine lv_irem cx.1 cx.2.1 dX12_feed_95 (by decide) ?_
  refine lv_topi (fun z103 ez103 => ?_)
  obtain rfl : z103 = 2 := ez103.trans (by decide)
  refine lv_imul cx.1 cx.2.1 dX12_feed_96 ?_
  refine lv_topi (fun z104 ez104 => ?_)
  obtain rfl : z104 = 16 := ez104.trans (by decide)
  refine lv_isub cx.1 cx.2.1 dX12_feed_97 ?_
  refine lv_topi (fun z105 ez105 => ?_)
  obtain rfl : z105 = 8 := ez105.trans (by decide)
  refine lv_ishr cx.1 cx.2.1 dX12_feed_98 ?_
  refine lv_sipush (v := 255) cx.1 cx.2.1 dX12_feed_99 (by decide) ?_
  refine lv_iand cx.1 cx.2.1 dX12_feed_102 ?_
  have f106 : g96 (r 1) = some (.inl (cA 1, 3000, .inl fa93)) := (by rw [eg96]; exact (hp_up_ne _ _ (hp_neAO f92 f94)).trans f92)
  refine hp_iast cx hw 1 f106 rfl (by unfold vp_in; decide) dX12_feed_103 (fun g107 H locs eg107 hw => ?_)
  have f108 : g107 (r 1) = some (.inl (cA 1, 3000, .inl (upd fa93 (6 : Int32).toNatClampNeg ((x1 >>> (8 &&& 31)) &&& 255)))) := (by rw [eg107]; exact hp_up_self _ _ _)
  generalize (upd fa93 (6 : Int32).toNatClampNeg ((x1 >>> (8 &&& 31)) &&& 255)) = fa109 at f108
  refine lv_aload_n cx.1 cx.2.1 dX12_feed_104 rfl (lv_at hl 2 rfl) ?_
  refine lv_dup cx.1 cx.2.1 dX12_feed_105 rfl ?_
  have f110 : g107 h = some (.inr (12, F97)) := (by rw [eg107]; exact (hp_up_ne _ _ (hp_neOA f98 f106)).trans f98)
  refine hp_get (C := RX12) (T := TX12) (N := 137) (ci := 12) cx hw i_f_Mfeed_X12 rfl f110 2 (by decide) m_f_Mfeed_f271 (v := .int 6) vF97 dX12_feed_106 ?_
  refine lv_iconst (v := 1) cx.1 cx.2.1 dX12_feed_109 (by decide) ?_
  refine lv_iadd cx.1 cx.2.1 dX12_feed_110 ?_
  refine lv_topi (fun z111 ez111 => ?_)
  obtain rfl : z111 = 7 := ez111.trans (by decide)
  obtain ⟨F113, eF113⟩ : ∃ F1, F1 = F97.set 2 (.int 7) := ⟨_, rfl⟩
  have lF113 : F113.length = 137 := by rw [eF113, List.length_set]; exact lF97
  have vF113 : F113[2]? = some (.int 7) := by rw [eF113]; exact fl_self (by rw [lF97]; decide)
  refine hp_put (C := RX12) (T := TX12) (N := 137) (ci := 12) (fs' := F113) cx hw i_f_Mfeed_X12 tyX12_ok nmX12 rfl f110 2 (by decide) m_f_Mfeed_f271 rfl  rfl rfl (by rw [lF97]; decide) eF113.symm dX12_feed_111 (fun g112 H locs eg112 hw => ?_)
  have f114 : g112 h = some (.inr (12, F113)) := (by rw [eg112]; exact hp_up_self _ _ _)
  refine lv_iinc (v := 7) (lv' := [(6, .int 7), (7, .int x1), (0, .ref h), (1, .int x0), (2, .int x1), (3, .int x2), (4, .int x3), (5, .int x4)]) cx.1 cx.2.1 dX12_feed_114 hl (k := 1) rfl (by decide) (by decide) rfl (fun ls hl => ?_)
  refine lv_goto (tgt := 23) cx.1 cx.2.1 dX12_feed_117 (by decide) ?_
  refine lv_iload cx.1 cx.2.1 dX12_feed_23 (lv_at hl 0 rfl) ?_
  refine lv_bipush (v := 20) cx.1 cx.2.1 dX12_feed_25 (by decide) ?_
  refine lv_icmp_ge (tgt := 120) cx.1 cx.2.1 dX12_feed_27 (by decide) (fun c27_115 => ?_) (fun c27_115 => ?_)
  · exact absurd c27_115 (by decide)
  refine lv_iload cx.1 cx.2.1 dX12_feed_30 (lv_at hl 0 rfl) ?_
  refine lv_iconst (v := 4) cx.1 cx.2.1 dX12_feed_32 (by decide) ?_
  refine lv_icmp_ge (tgt := 40) cx.1 cx.2.1 dX12_feed_33 (by decide) (fun c33_116 => ?_) (fun c33_116 => ?_)
  rotate_left
  · exact absurd (by decide) c33_116
  refine lv_iload cx.1 cx.2.1 dX12_feed_40 (lv_at hl 0 rfl) ?_
  refine lv_bipush (v := 8) cx.1 cx.2.1 dX12_feed_42 (by decide) ?_
  refine lv_icmp_ge (tgt := 51) cx.1 cx.2.1 dX12_feed_44 (by decide) (fun c44_117 => ?_) (fun c44_117 => ?_)
  · exact absurd c44_117 (by decide)
  refine lv_iload_n cx.1 cx.2.1 dX12_feed_47 rfl (lv_at hl 4 rfl) ?_
  refine lv_goto (tgt := 76) cx.1 cx.2.1 dX12_feed_48 (by decide) ?_
  refine lv_istore (lv' := [(7, .int x1), (6, .int 7), (0, .ref h), (1, .int x0), (2, .int x1), (3, .int x2), (4, .int x3), (5, .int x4)]) cx.1 cx.2.1 dX12_feed_76 hl (by decide) rfl (fun ls hl => ?_)
  refine lv_aload_n cx.1 cx.2.1 dX12_feed_78 rfl (lv_at hl 2 rfl) ?_
  have v118 : F113[1]? = some (.ref (r 1)) := by rw [eF113]; exact (fl_ne (by decide)).trans v102
  refine hp_get (C := RX12) (T := TX12) (N := 137) (ci := 12) cx hw i_f_Mfeed_X12 rfl f114 1 (by decide) m_f_Mfeed_f9 (v := .ref (r 1)) v118 dX12_feed_79 ?_
  refine lv_aload_n cx.1 cx.2.1 dX12_feed_82 rfl (lv_at hl 2 rfl) ?_
  refine hp_get (C := RX12) (T := TX12) (N := 137) (ci := 12) cx hw i_f_Mfeed_X12 rfl f114 2 (by decide) m_f_Mfeed_f271 (v := .int 7) vF113 dX12_feed_83 ?_
  refine lv_iload cx.1 cx.2.1 dX12_feed_86 (lv_at hl 0 rfl) ?_
  refine lv_bipush (v := 24) cx.1 cx.2.1 dX12_feed_88 (by decide) ?_
  refine lv_bipush (v := 8) cx.1 cx.2.1 dX12_feed_90 (by decide) ?_
  refine lv_iload cx.1 cx.2.1 dX12_feed_92 (lv_at hl 1 rfl) ?_
  refine lv_iconst (v := 4) cx.1 cx.2.1 dX12_feed_94 (by decide) ?_
  refine lv_irem cx.1 cx.2.1 dX12_feed_95 (by decide) ?_
  refine lv_topi (fun z119 ez119 => ?_)
  obtain rfl : z119 = 3 := ez119.trans (by decide)
  refine lv_imul cx.1 cx.2.1 dX12_feed_96 ?_
  refine lv_topi (fun z120 ez120 => ?_)
  obtain rfl : z120 = 24 := ez120.trans (by decide)
  refine lv_isub cx.1 cx.2.1 dX12_feed_97 ?_
  refine lv_topi (fun z121 ez121 => ?_)
  obtain rfl : z121 = 0 := ez121.trans (by decide)
  refine lv_ishr cx.1 cx.2.1 dX12_feed_98 ?_
  refine lv_sipush (v := 255) cx.1 cx.2.1 dX12_feed_99 (by decide) ?_
  refine lv_iand cx.1 cx.2.1 dX12_feed_102 ?_
  have f122 : g112 (r 1) = some (.inl (cA 1, 3000, .inl fa109)) := (by rw [eg112]; exact (hp_up_ne _ _ (hp_neAO f108 f110)).trans f108)
  refine hp_iast cx hw 1 f122 rfl (by unfold vp_in; decide) dX12_feed_103 (fun g123 H locs eg123 hw => ?_)
  have f124 : g123 (r 1) = some (.inl (cA 1, 3000, .inl (upd fa109 (7 : Int32).toNatClampNeg ((x1 >>> (0 &&& 31)) &&& 255)))) := (by rw [eg123]; exact hp_up_self _ _ _)
  generalize (upd fa109 (7 : Int32).toNatClampNeg ((x1 >>> (0 &&& 31)) &&& 255)) = fa125 at f124
  refine lv_aload_n cx.1 cx.2.1 dX12_feed_104 rfl (lv_at hl 2 rfl) ?_
  refine lv_dup cx.1 cx.2.1 dX12_feed_105 rfl ?_
  have f126 : g123 h = some (.inr (12, F113)) := (by rw [eg123]; exact (hp_up_ne _ _ (hp_neOA f114 f122)).trans f114)
  refine hp_get (C := RX12) (T := TX12) (N := 137) (ci := 12) cx hw i_f_Mfeed_X12 rfl f126 2 (by decide) m_f_Mfeed_f271 (v := .int 7) vF113 dX12_feed_106 ?_
  refine lv_iconst (v := 1) cx.1 cx.2.1 dX12_feed_109 (by decide) ?_
  refine lv_iadd cx.1 cx.2.1 dX12_feed_110 ?_
  refine lv_topi (fun z127 ez127 => ?_)
  obtain rfl : z127 = 8 := ez127.trans (by decide)
  obtain ⟨F129, eF129⟩ : ∃ F1, F1 = F113.set 2 (.int 8) := ⟨_, rfl⟩
  have lF129 : F129.length = 137 := by rw [eF129, List.length_set]; exact lF113
  have vF129 : F129[2]? = some (.int 8) := by rw [eF129]; exact fl_self (by rw [lF113]; decide)
  refine hp_put (C := RX12) (T := TX12) (N := 137) (ci := 12) (fs' := F129) cx hw i_f_Mfeed_X12 tyX12_ok nmX12 rfl f126 2 (by decide) m_f_Mfeed_f271 rfl  rfl rfl (by rw [lF113]; decide) eF129.symm dX12_feed_111 (fun g128 H locs eg128 hw => ?_)
  have f130 : g128 h = some (.inr (12, F129)) := (by rw [eg128]; exact hp_up_self _ _ _)
  refine lv_iinc (v := 8) (lv' := [(6, .int 8), (7, .int x1), (0, .ref h), (1, .int x0), (2, .int x1), (3, .int x2), (4, .int x3), (5, .int x4)]) cx.1 cx.2.1 dX12_feed_114 hl (k := 1) rfl (by decide) (by decide) rfl (fun ls hl => ?_)
  refine lv_goto (tgt := 23) cx.1 cx.2.1 dX12_feed_117 (by decide) ?_
  refine lv_iload cx.1 cx.2.1 dX12_feed_23 (lv_at hl 0 rfl) ?_
  refine lv_bipush (v := 20) cx.1 cx.2.1 dX12_feed_25 (by decide) ?_
  refine lv_icmp_ge (tgt := 120) cx.1 cx.2.1 dX12_feed_27 (by decide) (fun c27_131 => ?_) (fun c27_131 => ?_)
  · exact absurd c27_131 (by decide)
  refine lv_iload cx.1 cx.2.1 dX12_feed_30 (lv_at hl 0 rfl) ?_
  refine lv_iconst (v := 4) cx.1 cx.2.1 dX12_feed_32 (by decide) ?_
  refine lv_icmp_ge (tgt := 40) cx.1 cx.2.1 dX12_feed_33 (by decide) (fun c33_132 => ?_) (fun c33_132 => ?_)
  rotate_left
  · exact absurd (by decide) c33_132
  refine lv_iload cx.1 cx.2.1 dX12_feed_40 (lv_at hl 0 rfl) ?_
  refine lv_bipush (v := 8) cx.1 cx.2.1 dX12_feed_42 (by decide) ?_
  refine lv_icmp_ge (tgt := 51) cx.1 cx.2.1 dX12_feed_44 (by decide) (fun c44_133 => ?_) (fun c44_133 => ?_)
  rotate_left
  · exact absurd (by decide) c44_133
  refine lv_iload cx.1 cx.2.1 dX12_feed_51 (lv_at hl 0 rfl) ?_
  refine lv_bipush (v := 12) cx.1 cx.2.1 dX12_feed_53 (by decide) ?_
  refine lv_icmp_ge (tgt := 62) cx.1 cx.2.1 dX12_feed_55 (by decide) (fun c55_134 => ?_) (fun c55_134 => ?_)
  · exact absurd c55_134 (by decide)
  refine lv_iload_n cx.1 cx.2.1 dX12_feed_58 rfl (lv_at hl 5 rfl) ?_
  refine lv_goto (tgt := 76) cx.1 cx.2.1 dX12_feed_59 (by decide) ?_
  refine lv_istore (lv' := [(7, .int x2), (6, .int 8), (0, .ref h), (1, .int x0), (2, .int x1), (3, .int x2), (4, .int x3), (5, .int x4)]) cx.1 cx.2.1 dX12_feed_76 hl (by decide) rfl (fun ls hl => ?_)
  refine lv_aload_n cx.1 cx.2.1 dX12_feed_78 rfl (lv_at hl 2 rfl) ?_
  have v135 : F129[1]? = some (.ref (r 1)) := by rw [eF129]; exact (fl_ne (by decide)).trans v118
  refine hp_get (C := RX12) (T := TX12) (N := 137) (ci := 12) cx hw i_f_Mfeed_X12 rfl f130 1 (by decide) m_f_Mfeed_f9 (v := .ref (r 1)) v135 dX12_feed_79 ?_
  refine lv_aload_n cx.1 cx.2.1 dX12_feed_82 rfl (lv_at hl 2 rfl) ?_
  refine hp_get (C := RX12) (T := TX12) (N := 137) (ci := 12) cx hw i_f_Mfeed_X12 rfl f130 2 (by decide) m_f_Mfeed_f271 (v := .int 8) vF129 dX12_feed_83 ?_
  refine lv_iload cx.1 cx.2.1 dX12_feed_86 (lv_at hl 0 rfl) ?_
  refine lv_bipush (v := 24) cx.1 cx.2.1 dX12_feed_88 (by decide) ?_
  refine lv_bipush (v := 8) cx.1 cx.2.1 dX12_feed_90 (by decide) ?_
  refine lv_iload cx.1 cx.2.1 dX12_feed_92 (lv_at hl 1 rfl) ?_
  refine lv_iconst (v := 4) cx.1 cx.2.1 dX12_feed_94 (by decide) ?_
  refine lv_irem cx.1 cx.2.1 dX12_feed_95 (by decide) ?_
  refine lv_topi (fun z136 ez136 => ?_)
  obtain rfl : z136 = 0 := ez136.trans (by decide)
  refine lv_imul cx.1 cx.2.1 dX12_feed_96 ?_
  refine lv_topi (fun z137 ez137 => ?_)
  obtain rfl : z137 = 0 := ez137.trans (by decide)
  refine lv_isub cx.1 cx.2.1 dX12_feed_97 ?_
  refine lv_topi (fun z138 ez138 => ?_)
  obtain rfl : z138 = 24 := ez138.trans (by decide)
  refine lv_ishr cx.1 cx.2.1 dX12_feed_98 ?_
  refine lv_sipush (v := 255) cx.1 cx.2.1 dX12_feed_99 (by decide) ?_
  refine lv_iand cx.1 cx.2.1 dX12_feed_102 ?_
  have f139 : g128 (r 1) = some (.inl (cA 1, 3000, .inl fa125)) := (by rw [eg128]; exact (hp_up_ne _ _ (hp_neAO f124 f126)).trans f124)
  refine hp_iast cx hw 1 f139 rfl (by unfold vp_in; decide) dX12_feed_103 (fun g140 H locs eg140 hw => ?_)
  have f141 : g140 (r 1) = some (.inl (cA 1, 3000, .inl (upd fa125 (8 : Int32).toNatClampNeg ((x2 >>> (24 &&& 31)) &&& 255)))) := (by rw [eg140]; exact hp_up_self _ _ _)
  generalize (upd fa125 (8 : Int32).toNatClampNeg ((x2 >>> (24 &&& 31)) &&& 255)) = fa142 at f141
  refine lv_aload_n cx.1 cx.2.1 dX12_feed_104 rfl (lv_at hl 2 rfl) ?_
  refine lv_dup cx.1 cx.2.1 dX12_feed_105 rfl ?_
  have f143 : g140 h = some (.inr (12, F129)) := (by rw [eg140]; exact (hp_up_ne _ _ (hp_neOA f130 f139)).trans f130)
  refine hp_get (C := RX12) (T := TX12) (N := 137) (ci := 12) cx hw i_f_Mfeed_X12 rfl f143 2 (by decide) m_f_Mfeed_f271 (v := .int 8) vF129 dX12_feed_106 ?_
  refine lv_iconst (v := 1) cx.1 cx.2.1 dX12_feed_109 (by decide) ?_
  refine lv_iadd cx.1 cx.2.1 dX12_feed_110 ?_
  refine lv_topi (fun z144 ez144 => ?_)
  obtain rfl : z144 = 9 := ez144.trans (by decide)
  obtain ⟨F146, eF146⟩ : ∃ F1, F1 = F129.set 2 (.int 9) := ⟨_, rfl⟩
  have lF146 : F146.length = 137 := by rw [eF146, List.length_set]; exact lF129
  have vF146 : F146[2]? = some (.int 9) := by rw [eF146]; exact fl_self (by rw [lF129]; decide)
  refine hp_put (C := RX12) (T := TX12) (N := 137) (ci := 12) (fs' := F146) cx hw i_f_Mfeed_X12 tyX12_ok nmX12 rfl f143 2 (by decide) m_f_Mfeed_f271 rfl  rfl rfl (by rw [lF129]; decide) eF146.symm dX12_feed_111 (fun g145 H locs eg145 hw => ?_)
  have f147 : g145 h = some (.inr (12, F146)) := (by rw [eg145]; exact hp_up_self _ _ _)
  refine lv_iinc (v := 9) (lv' := [(6, .int 9), (7, .int x2), (0, .ref h), (1, .int x0), (2, .int x1), (3, .int x2), (4, .int x3), (5, .int x4)]) cx.1 cx.2.1 dX12_feed_114 hl (k := 1) rfl (by decide) (by decide) rfl (fun ls hl => ?_)
  refine lv_goto (tgt := 23) cx.1 cx.2.1 dX12_feed_117 (by decide) ?_
  refine lv_iload cx.1 cx.2.1 dX12_feed_23 (lv_at hl 0 rfl) ?_
  refine lv_bipush (v := 20) cx.1 cx.2.1 dX12_feed_25 (by decide) ?_
  refine lv_icmp_ge (tgt := 120) cx.1 cx.2.1 dX12_feed_27 (by decide) (fun c27_148 => ?_) (fun c27_148 => ?_)
  · exact absurd c27_148 (by decide)
  refine lv_iload cx.1 cx.2.1 dX12_feed_30 (lv_at hl 0 rfl) ?_
  refine lv_iconst (v := 4) cx.1 cx.2.1 dX12_feed_32 (by decide) ?_
  refine lv_icmp_ge (tgt := 40) cx.1 cx.2.1 dX12_feed_33 (by decide) (fun c33_149 => ?_) (fun c33_149 => ?_)
  rotate_left
  · exact absurd (by decide) c33_149
  refine lv_iload cx.1 cx.2.1 dX12_feed_40 (lv_at hl 0 rfl) ?_
  refine lv_bipush (v := 8) cx.1 cx.2.1 dX12_feed_42 (by decide) ?_
  refine lv_icmp_ge (tgt := 51) cx.1 cx.2.1 dX12_feed_44 (by decide) (fun c44_150 => ?_) (fun c44_150 => ?_)
  rotate_left
  · exact absurd (by decide) c44_150
  refine lv_iload cx.1 cx.2.1 dX12_feed_51 (lv_at hl 0 rfl) ?_
  refine lv_bipush (v := 12) cx.1 cx.2.1 dX12_feed_53 (by decide) ?_
  refine lv_icmp_ge (tgt := 62) cx.1 cx.2.1 dX12_feed_55 (by decide) (fun c55_151 => ?_) (fun c55_151 => ?_)
  · exact absurd c55_151 (by decide)
  refine lv_iload_n cx.1 cx.2.1 dX12_feed_58 rfl (lv_at hl 5 rfl) ?_
  refine lv_goto (tgt := 76) cx.1 cx.2.1 dX12_feed_59 (by decide) ?_
  refine lv_istore (lv' := [(7, .int x2), (6, .int 9), (0, .ref h), (1, .int x0), (2, .int x1), (3, .int x2), (4, .int x3), (5, .int x4)]) cx.1 cx.2.1 dX12_feed_76 hl (by decide) rfl (fun ls hl => ?_)
  refine lv_aload_n cx.1 cx.2.1 dX12_feed_78 rfl (lv_at hl 2 rfl) ?_
  have v152 : F146[1]? = some (.ref (r 1)) := by rw [eF146]; exact (fl_ne (by decide)).trans v135
  refine hp_get (C := RX12) (T := TX12) (N := 137) (ci := 12) cx hw i_f_Mfeed_X12 rfl f147 1 (by decide) m_f_Mfeed_f9 (v := .ref (r 1)) v152 dX12_feed_79 ?_
  refine lv_aload_n cx.1 cx.2.1 dX12_feed_82 rfl (lv_at hl 2 rfl) ?_
  refine hp_get (C := RX12) (T := TX12) (N := 137) (ci := 12) cx hw i_f_Mfeed_X12 rfl f147 2 (by decide) m_f_Mfeed_f271 (v := .int 9) vF146 dX12_feed_83 ?_
  refine lv_iload cx.1 cx.2.1 dX12_feed_86 (lv_at hl 0 rfl) ?_
  refine lv_bipush (v := 24) cx.1 cx.2.1 dX12_feed_88 (by decide) ?_
  refine lv_bipush (v := 8) cx.1 cx.2.1 dX12_feed_90 (by decide) ?_
  refine lv_iload cx.1 cx.2.1 dX12_feed_92 (lv_at hl 1 rfl) ?_
  refine lv_iconst (v := 4) cx.1 cx.2.1 dX12_feed_94 (by decide) ?_
  refine lv_irem cx.1 cx.2.1 dX12_feed_95 (by decide) ?_
  refine lv_topi (fun z153 ez153 => ?_)
  obtain rfl : z153 = 1 := ez153.trans (by decide)
  refine lv_imul cx.1 cx.2.1 dX12_feed_96 ?_
  refine lv_topi (fun z154 ez154 => ?_)
  obtain rfl : z154 = 8 := ez154.trans (by decide)
  refine lv_isub cx.1 cx.2.1 dX12_feed_97 ?_
  refine lv_topi (fun z155 ez155 => ?_)
  obtain rfl : z155 = 16 := ez155.trans (by decide)
  refine lv_ishr cx.1 cx.2.1 dX12_feed_98 ?_
  refine lv_sipush (v := 255) cx.1 cx.2.1 dX12_feed_99 (by decide) ?_
  refine lv_iand cx.1 cx.2.1 dX12_feed_102 ?_
  have f156 : g145 (r 1) = some (.inl (cA 1, 3000, .inl fa142)) := (by rw [eg145]; exact (hp_up_ne _ _ (hp_neAO f141 f143)).trans f141)
  refine hp_iast cx hw 1 f156 rfl (by unfold vp_in; decide) dX12_feed_103 (fun g157 H locs eg157 hw => ?_)
  have f158 : g157 (r 1) = some (.inl (cA 1, 3000, .inl (upd fa142 (9 : Int32).toNatClampNeg ((x2 >>> (16 &&& 31)) &&& 255)))) := (by rw [eg157]; exact hp_up_self _ _ _)
  generalize (upd fa142 (9 : Int32).toNatClampNeg ((x2 >>> (16 &&& 31)) &&& 255)) = fa159 at f158
  refine lv_aload_n cx.1 cx.2.1 dX12_feed_104 rfl (lv_at hl 2 rfl) ?_
  refine lv_dup cx.1 cx.2.1 dX12_feed_105 rfl ?_
  have f160 : g157 h = some (.inr (12, F146)) := (by rw [eg157]; exact (hp_up_ne _ _ (hp_neOA f147 f156)).trans f147)
  refine hp_get (C := RX12) (T := TX12) (N := 137) (ci := 12) cx hw i_f_Mfeed_X12 rfl f160 2 (by decide) m_f_Mfeed_f271 (v := .int 9) vF146 dX12_feed_106 ?_
  refine lv_iconst (v := 1) cx.1 cx.2.1 dX12_feed_109 (by decide) ?_
  refine lv_iadd cx.1 cx.2.1 dX12_feed_110 ?_
  refine lv_topi (fun z161 ez161 => ?_)
  obtain rfl : z161 = 10 := ez161.trans (by decide)
  obtain ⟨F163, eF163⟩ : ∃ F1, F1 = F146.set 2 (.int 10) := ⟨_, rfl⟩
  have lF163 : F163.length = 137 := by rw [eF163, List.length_set]; exact lF146
  have vF163 : F163[2]? = some (.int 10) := by rw [eF163]; exact fl_self (by rw [lF146]; decide)
  refine hp_put (C := RX12) (T := TX12) (N := 137) (ci := 12) (fs' := F163) cx hw i_f_Mfeed_X12 tyX12_ok nmX12 rfl f160 2 (by decide) m_f_Mfeed_f271 rfl  rfl rfl (by rw [lF146]; decide) eF163.symm dX12_feed_111 (fun g162 H locs eg162 hw => ?_)
  have f164 : g162 h = some (.inr (12, F163)) := (by rw [eg162]; exact hp_up_self _ _ _)
  refine lv_iinc (v := 10) (lv' := [(6, .int 10), (7, .int x2), (0, .ref h), (1, .int x0), (2, .int x1), (3, .int x2), (4, .int x3), (5, .int x4)]) cx.1 cx.2.1 dX12_feed_114 hl (k := 1) rfl (by decide) (by decide) rfl (fun ls hl => ?_)
  refine lv_goto (tgt := 23) cx.1 cx.2.1 dX12_feed_117 (by decide) ?_
  refine lv_iload cx.1 cx.2.1 dX12_feed_23 (lv_at hl 0 rfl) ?_
  refine lv_bipush (v := 20) cx.1 cx.2.1 dX12_feed_25 (by decide) ?_
  refine lv_icmp_ge (tgt := 120) cx.1 cx.2.1 dX12_feed_27 (by decide) (fun c27_165 => ?_) (fun c27_165 => ?_)
  · exact absurd c27_165 (by decide)
  refine lv_iload cx.1 cx.2.1 dX12_feed_30 (lv_at hl 0 rfl) ?_
  refine lv_iconst (v := 4) cx.1 cx.2.1 dX12_feed_32 (by decide) ?_
  refine lv_icmp_ge (tgt := 40) cx.1 cx.2.1 dX12_feed_33 (by decide) (fun c33_166 => ?_) (fun c33_166 => ?_)
  rotate_left
  · exact absurd (by decide) c33_166
  refine lv_iload cx.1 cx.2.1 dX12_feed_40 (lv_at hl 0 rfl) ?_
  refine lv_bipush (v := 8) cx.1 cx.2.1 dX12_feed_42 (by decide) ?_
  refine lv_icmp_ge (tgt := 51) cx.1 cx.2.1 dX12_feed_44 (by decide) (fun c44_167 => ?_) (fun c44_167 => ?_)
  rotate_left
  · exact absurd (by decide) c44_167
  refine lv_iload cx.1 cx.2.1 dX12_feed_51 (lv_at hl 0 rfl) ?_
  refine lv_bipush (v := 12) cx.1 cx.2.1 dX12_feed_53 (by decide) ?_
  refine lv_icmp_ge (tgt := 62) cx.1 cx.2.1 dX12_feed_55 (by decide) (fun c55_168 => ?_) (fun c55_168 => ?_)
  · exact absurd c55_168 (by decide)
  refine lv_iload_n cx.1 cx.2.1 dX12_feed_58 rfl (lv_at hl 5 rfl) ?_
  refine lv_goto (tgt := 76) cx.1 cx.2.1 dX12_feed_59 (by decide) ?_
  refine lv_istore (lv' := [(7, .int x2), (6, .int 10), (0, .ref h), (1, .int x0), (2, .int x1), (3, .int x2), (4, .int x3), (5, .int x4)]) cx.1 cx.2.1 dX12_feed_76 hl (by decide) rfl (fun ls hl => ?_)
  refine lv_aload_n cx.1 cx.2.1 dX12_feed_78 rfl (lv_at hl 2 rfl) ?_
  have v169 : F163[1]? = some (.ref (r 1)) := by rw [eF163]; exact (fl_ne (by decide)).trans v152
  refine hp_get (C := RX12) (T := TX12) (N := 137) (ci := 12) cx hw i_f_Mfeed_X12 rfl f164 1 (by decide) m_f_Mfeed_f9 (v := .ref (r 1)) v169 dX12_feed_79 ?_
  refine lv_aload_n cx.1 cx.2.1 dX12_feed_82 rfl (lv_at hl 2 rfl) ?_
  refine hp_get (C := RX12) (T := TX12) (N := 137) (ci := 12) cx hw i_f_Mfeed_X12 rfl f164 2 (by decide) m_f_Mfeed_f271 (v := .int 10) vF163 dX12_feed_83 ?_
  refine lv_iload cx.1 cx.2.1 dX12_feed_86 (lv_at hl 0 rfl) ?_
  refine lv_bipush (v := 24) cx.1 cx.2.1 dX12_feed_88 (by decide) ?_
  refine lv_bipush (v := 8) cx.1 cx.2.1 dX12_feed_90 (by decide) ?_
  refine lv_iload cx.1 cx.2.1 dX12_feed_92 (lv_at hl 1 rfl) ?_
  refine lv_iconst (v := 4) cx.1 cx.2.1 dX12_feed_94 (by decide) ?_
  refine lv_irem cx.1 cx.2.1 dX12_feed_95 (by decide) ?_
  refine lv_topi (fun z170 ez170 => ?_)
  obtain rfl : z170 = 2 := ez170.trans (by decide)
  refine lv_imul cx.1 cx.2.1 dX12_feed_96 ?_
  refine lv_topi (fun z171 ez171 => ?_)
  obtain rfl : z171 = 16 := ez171.trans (by decide)
  refine lv_isub cx.1 cx.2.1 dX12_feed_97 ?_
  refine lv_topi (fun z172 ez172 => ?_)
  obtain rfl : z172 = 8 := ez172.trans (by decide)
  refine lv_ishr cx.1 cx.2.1 dX12_feed_98 ?_
  refine lv_sipush (v := 255) cx.1 cx.2.1 dX12_feed_99 (by decide) ?_
  refine lv_iand cx.1 cx.2.1 dX12_feed_102 ?_
  have f173 : g162 (r 1) = some (.inl (cA 1, 3000, .inl fa159)) := (by rw [eg162]; exact (hp_up_ne _ _ (hp_neAO f158 f160)).trans f158)
  refine hp_iast cx hw 1 f173 rfl (by unfold vp_in; decide) dX12_feed_103 (fun g174 H locs eg174 hw => ?_)
  have f175 : g174 (r 1) = some (.inl (cA 1, 3000, .inl (upd fa159 (10 : Int32).toNatClampNeg ((x2 >>> (8 &&& 31)) &&& 255)))) := (by rw [eg174]; exact hp_up_self _ _ _)
  generalize (upd fa159 (10 : Int32).toNatClampNeg ((x2 >>> (8 &&& 31)) &&& 255)) = fa176 at f175
  refine lv_aload_n cx.1 cx.2.1 dX12_feed_104 rfl (lv_at hl 2 rfl) ?_
  refine lv_dup cx.1 cx.2.1 dX12_feed_105 rfl ?_
  have f177 : g174 h = some (.inr (12, F163)) := (by rw [eg174]; exact (hp_up_ne _ _ (hp_neOA f164 f173)).trans f164)
  refine hp_get (C := RX12) (T := TX12) (N := 137) (ci := 12) cx hw i_f_Mfeed_X12 rfl f177 2 (by decide) m_f_Mfeed_f271 (v := .int 10) vF163 dX12_feed_106 ?_
  refine lv_iconst (v := 1) cx.1 cx.2.1 dX12_feed_109 (by decide) ?_
  refine lv_iadd cx.1 cx.2.1 dX12_feed_110 ?_
  refine lv_topi (fun z178 ez178 => ?_)
  obtain rfl : z178 = 11 := ez178.trans (by decide)
  obtain ⟨F180, eF180⟩ : ∃ F1, F1 = F163.set 2 (.int 11) := ⟨_, rfl⟩
  have lF180 : F180.length = 137 := by rw [eF180, List.length_set]; exact lF163
  have vF180 : F180[2]? = some (.int 11) := by rw [eF180]; exact fl_self (by rw [lF163]; decide)
  refine hp_put (C := RX12) (T := TX12) (N := 137) (ci := 12) (fs' := F180) cx hw i_f_Mfeed_X12 tyX12_ok nmX12 rfl f177 2 (by decide) m_f_Mfeed_f271 rfl  rfl rfl (by rw [lF163]; decide) eF180.symm dX12_feed_111 (fun g179 H locs eg179 hw => ?_)
  have f181 : g179 h = some (.inr (12, F180)) := (by rw [eg179]; exact hp_up_self _ _ _)
  refine lv_iinc (v := 11) (lv' := [(6, .int 11), (7, .int x2), (0, .ref h), (1, .int x0), (2, .int x1), (3, .int x2), (4, .int x3), (5, .int x4)]) cx.1 cx.2.1 dX12_feed_114 hl (k := 1) rfl (by decide) (by decide) rfl (fun ls hl => ?_)
  refine lv_goto (tgt := 23) cx.1 cx.2.1 dX12_feed_117 (by decide) ?_
  refine lv_iload cx.1 cx.2.1 dX12_feed_23 (lv_at hl 0 rfl) ?_
  refine lv_bipush (v := 20) cx.1 cx.2.1 dX12_feed_25 (by decide) ?_
  refine lv_icmp_ge (tgt := 120) cx.1 cx.2.1 dX12_feed_27 (by decide) (fun c27_182 => ?_) (fun c27_182 => ?_)
  · exact absurd c27_182 (by decide)
  refine lv_iload cx.1 cx.2.1 dX12_feed_30 (lv_at hl 0 rfl) ?_
  refine lv_iconst (v := 4) cx.1 cx.2.1 dX12_feed_32 (by decide) ?_
  refine lv_icmp_ge (tgt := 40) cx.1 cx.2.1 dX12_feed_33 (by decide) (fun c33_183 => ?_) (fun c33_183 => ?_)
  rotate_left
  · exact absurd (by decide) c33_183
  refine lv_iload cx.1 cx.2.1 dX12_feed_40 (lv_at hl 0 rfl) ?_
  refine lv_bipush (v := 8) cx.1 cx.2.1 dX12_feed_42 (by decide) ?_
  refine lv_icmp_ge (tgt := 51) cx.1 cx.2.1 dX12_feed_44 (by decide) (fun c44_184 => ?_) (fun c44_184 => ?_)
  rotate_left
  · exact absurd (by decide) c44_184
  refine lv_iload cx.1 cx.2.1 dX12_feed_51 (lv_at hl 0 rfl) ?_
  refine lv_bipush (v := 12) cx.1 cx.2.1 dX12_feed_53 (by decide) ?_
  refine lv_icmp_ge (tgt := 62) cx.1 cx.2.1 dX12_feed_55 (by decide) (fun c55_185 => ?_) (fun c55_185 => ?_)
  · exact absurd c55_185 (by decide)
  refine lv_iload_n cx.1 cx.2.1 dX12_feed_58 rfl (lv_at hl 5 rfl) ?_
  refine lv_goto (tgt := 76) cx.1 cx.2.1 dX12_feed_59 (by decide) ?_
  refine lv_istore (lv' := [(7, .int x2), (6, .int 11), (0, .ref h), (1, .int x0), (2, .int x1), (3, .int x2), (4, .int x3), (5, .int x4)]) cx.1 cx.2.1 dX12_feed_76 hl (by decide) rfl (fun ls hl => ?_)
  refine lv_aload_n cx.1 cx.2.1 dX12_feed_78 rfl (lv_at hl 2 rfl) ?_
  have v186 : F180[1]? = some (.ref (r 1)) := by rw [eF180]; exact (fl_ne (by decide)).trans v169
  refine hp_get (C := RX12) (T := TX12) (N := 137) (ci := 12) cx hw i_f_Mfeed_X12 rfl f181 1 (by decide) m_f_Mfeed_f9 (v := .ref (r 1)) v186 dX12_feed_79 ?_
  refine lv_aload_n cx.1 cx.2.1 dX12_feed_82 rfl (lv_at hl 2 rfl) ?_
  refine hp_get (C := RX12) (T := TX12) (N := 137) (ci := 12) cx hw i_f_Mfeed_X12 rfl f181 2 (by decide) m_f_Mfeed_f271 (v := .int 11) vF180 dX12_feed_83 ?_
  refine lv_iload cx.1 cx.2.1 dX12_feed_86 (lv_at hl 0 rfl) ?_
  refine lv_bipush (v := 24) cx.1 cx.2.1 dX12_feed_88 (by decide) ?_
  refine lv_bipush (v := 8) cx.1 cx.2.1 dX12_feed_90 (by decide) ?_
  refine lv_iload cx.1 cx.2.1 dX12_feed_92 (lv_at hl 1 rfl) ?_
  refine lv_iconst (v := 4) cx.1 cx.2.1 dX12_feed_94 (by decide) ?_
  refine lv_irem cx.1 cx.2.1 dX12_feed_95 (by decide) ?_
  refine lv_topi (fun z187 ez187 => ?_)
  obtain rfl : z187 = 3 := ez187.trans (by decide)
  refine lv_imul cx.1 cx.2.1 dX12_feed_96 ?_
  refine lv_topi (fun z188 ez188 => ?_)
  obtain rfl : z188 = 24 := ez188.trans (by decide)
  refine lv_isub cx.1 cx.2.1 dX12_feed_97 ?_
  refine lv_topi (fun z189 ez189 => ?_)
  obtain rfl : z189 = 0 := ez189.trans (by decide)
  refine lv_ishr cx.1 cx.2.1 dX12_feed_98 ?_
  refine lv_sipush (v := 255) cx.1 cx.2.1 dX12_feed_99 (by decide) ?_
  refine lv_iand cx.1 cx.2.1 dX12_feed_102 ?_
  have f190 : g179 (r 1) = some (.inl (cA 1, 3000, .inl fa176)) := (by rw [eg179]; exact (hp_up_ne _ _ (hp_neAO f175 f177)).trans f175)
  refine hp_iast cx hw 1 f190 rfl (by unfold vp_in; decide) dX12_feed_103 (fun g191 H locs eg191 hw => ?_)
  have f192 : g191 (r 1) = some (.inl (cA 1, 3000, .inl (upd fa176 (11 : Int32).toNatClampNeg ((x2 >>> (0 &&& 31)) &&& 255)))) := (by rw [eg191]; exact hp_up_self _ _ _)
  generalize (upd fa176 (11 : Int32).toNatClampNeg ((x2 >>> (0 &&& 31)) &&& 255)) = fa193 at f192
  refine lv_aload_n cx.1 cx.2.1 dX12_feed_104 rfl (lv_at hl 2 rfl) ?_
  refine lv_dup cx.1 cx.2.1 dX12_feed_105 rfl ?_
  have f194 : g191 h = some (.inr (12, F180)) := (by rw [eg191]; exact (hp_up_ne _ _ (hp_neOA f181 f190)).trans f181)
  refine hp_get (C := RX12) (T := TX12) (N := 137) (ci := 12) cx hw i_f_Mfeed_X12 rfl f194 2 (by decide) m_f_Mfeed_f271 (v := .int 11) vF180 dX12_feed_106 ?_
  refine lv_iconst (v := 1) cx.1 cx.2.1 dX12_feed_109 (by decide) ?_
  refine lv_iadd cx.1 cx.2.1 dX12_feed_110 ?_
  refine lv_topi (fun z195 ez195 => ?_)
  obtain rfl : z195 = 12 := ez195.trans (by decide)
  obtain ⟨F197, eF197⟩ : ∃ F1, F1 = F180.set 2 (.int 12) := ⟨_, rfl⟩
  have lF197 : F197.length = 137 := by rw [eF197, List.length_set]; exact lF180
  have vF197 : F197[2]? = some (.int 12) := by rw [eF197]; exact fl_self (by rw [lF180]; decide)
  refine hp_put (C := RX12) (T := TX12) (N := 137) (ci := 12) (fs' := F197) cx hw i_f_Mfeed_X12 tyX12_ok nmX12 rfl f194 2 (by decide) m_f_Mfeed_f271 rfl  rfl rfl (by rw [lF180]; decide) eF197.symm dX12_feed_111 (fun g196 H locs eg196 hw => ?_)
  have f198 : g196 h = some (.inr (12, F197)) := (by rw [eg196]; exact hp_up_self _ _ _)
  refine lv_iinc (v := 12) (lv' := [(6, .int 12), (7, .int x2), (0, .ref h), (1, .int x0), (2, .int x1), (3, .int x2), (4, .int x3), (5, .int x4)]) cx.1 cx.2.1 dX12_feed_114 hl (k := 1) rfl (by decide) (by decide) rfl (fun ls hl => ?_)
  refine lv_goto (tgt := 23) cx.1 cx.2.1 dX12_feed_117 (by decide) ?_
  refine lv_iload cx.1 cx.2.1 dX12_feed_23 (lv_at hl 0 rfl) ?_
  refine lv_bipush (v := 20) cx.1 cx.2.1 dX12_feed_25 (by decide) ?_
  refine lv_icmp_ge (tgt := 120) cx.1 cx.2.1 dX12_feed_27 (by decide) (fun c27_199 => ?_) (fun c27_199 => ?_)
  · exact absurd c27_199 (by decide)
  refine lv_iload cx.1 cx.2.1 dX12_feed_30 (lv_at hl 0 rfl) ?_
  refine lv_iconst (v := 4) cx.1 cx.2.1 dX12_feed_32 (by decide) ?_
  refine lv_icmp_ge (tgt := 40) cx.1 cx.2.1 dX12_feed_33 (by decide) (fun c33_200 => ?_) (fun c33_200 => ?_)
  rotate_left
  · exact absurd (by decide) c33_200
  refine lv_iload cx.1 cx.2.1 dX12_feed_40 (lv_at hl 0 rfl) ?_
  refine lv_bipush (v := 8) cx.1 cx.2.1 dX12_feed_42 (by decide) ?_
  refine lv_icmp_ge (tgt := 51) cx.1 cx.2.1 dX12_feed_44 (by decide) (fun c44_201 => ?_) (fun c44_201 => ?_)
  rotate_left
  · exact absurd (by decide) c44_201
  refine lv_iload cx.1 cx.2.1 dX12_feed_51 (lv_at hl 0 rfl) ?_
  refine lv_bipush (v := 12) cx.1 cx.2.1 dX12_feed_53 (by decide) ?_
  refine lv_icmp_ge (tgt := 62) cx.1 cx.2.1 dX12_feed_55 (by decide) (fun c55_202 => ?_) (fun c55_202 => ?_)
  rotate_left
  · exact absurd (by decide) c55_202
  refine lv_iload cx.1 cx.2.1 dX12_feed_62 (lv_at hl 0 rfl) ?_
  refine lv_bipush (v := 16) cx.1 cx.2.1 dX12_feed_64 (by decide) ?_
  refine lv_icmp_ge (tgt := 74) cx.1 cx.2.1 dX12_feed_66 (by decide) (fun c66_203 => ?_) (fun c66_203 => ?_)
  · exact absurd c66_203 (by decide)
  refine lv_iload cx.1 cx.2.1 dX12_feed_69 (lv_at hl 6 rfl) ?_
  refine lv_goto (tgt := 76) cx.1 cx.2.1 dX12_feed_71 (by decide) ?_
  refine lv_istore (lv' := [(7, .int x3), (6, .int 12), (0, .ref h), (1, .int x0), (2, .int x1), (3, .int x2), (4, .int x3), (5, .int x4)]) cx.1 cx.2.1 dX12_feed_76 hl (by decide) rfl (fun ls hl => ?_)
  refine lv_aload_n cx.1 cx.2.1 dX12_feed_78 rfl (lv_at hl 2 rfl) ?_
  have v204 : F197[1]? = some (.ref (r 1)) := by rw [eF197]; exact (fl_ne (by decide)).trans v186
  refine hp_get (C := RX12) (T := TX12) (N := 137) (ci := 12) cx hw i_f_Mfeed_X12 rfl f198 1 (by decide) m_f_Mfeed_f9 (v := .ref (r 1)) v204 dX12_feed_79 ?_
  refine lv_aload_n cx.1 cx.2.1 dX12_feed_82 rfl (lv_at hl 2 rfl) ?_
  refine hp_get (C := RX12) (T := TX12) (N := 137) (ci := 12) cx hw i_f_Mfeed_X12 rfl f198 2 (by decide) m_f_Mfeed_f271 (v := .int 12) vF197 dX12_feed_83 ?_
  refine lv_iload cx.1 cx.2.1 dX12_feed_86 (lv_at hl 0 rfl) ?_
  refine lv_bipush (v := 24) cx.1 cx.2.1 dX12_feed_88 (by decide) ?_
  refine lv_bipush (v := 8) cx.1 cx.2.1 dX12_feed_90 (by decide) ?_
  refine lv_iload cx.1 cx.2.1 dX12_feed_92 (lv_at hl 1 rfl) ?_
  refine lv_iconst (v := 4) cx.1 cx.2.1 dX12_feed_94 (by decide) ?_
  refine lv_irem cx.1 cx.2.1 dX12_feed_95 (by decide) ?_
  refine lv_topi (fun z205 ez205 => ?_)
  obtain rfl : z205 = 0 := ez205.trans (by decide)
  refine lv_imul cx.1 cx.2.1 dX12_feed_96 ?_
  refine lv_topi (fun z206 ez206 => ?_)
  obtain rfl : z206 = 0 := ez206.trans (by decide)
  refine lv_isub cx.1 cx.2.1 dX12_feed_97 ?_
  refine lv_topi (fun z207 ez207 => ?_)
  obtain rfl : z207 = 24 := ez207.trans (by decide)
  refine lv_ishr cx.1 cx.2.1 dX12_feed_98 ?_
  refine lv_sipush (v := 255) cx.1 cx.2.1 dX12_feed_99 (by decide) ?_
  refine lv_iand cx.1 cx.2.1 dX12_feed_102 ?_
  have f208 : g196 (r 1) = some (.inl (cA 1, 3000, .inl fa193)) := (by rw [eg196]; exact (hp_up_ne _ _ (hp_neAO f192 f194)).trans f192)
  refine hp_iast cx hw 1 f208 rfl (by unfold vp_in; decide) dX12_feed_103 (fun g209 H locs eg209 hw => ?_)
  have f210 : g209 (r 1) = some (.inl (cA 1, 3000, .inl (upd fa193 (12 : Int32).toNatClampNeg ((x3 >>> (24 &&& 31)) &&& 255)))) := (by rw [eg209]; exact hp_up_self _ _ _)
  generalize (upd fa193 (12 : Int32).toNatClampNeg ((x3 >>> (24 &&& 31)) &&& 255)) = fa211 at f210
  refine lv_aload_n cx.1 cx.2.1 dX12_feed_104 rfl (lv_at hl 2 rfl) ?_
  refine lv_dup cx.1 cx.2.1 dX12_feed_105 rfl ?_
  have f212 : g209 h = some (.inr (12, F197)) := (by rw [eg209]; exact (hp_up_ne _ _ (hp_neOA f198 f208)).trans f198)
  refine hp_get (C := RX12) (T := TX12) (N := 137) (ci := 12) cx hw i_f_Mfeed_X12 rfl f212 2 (by decide) m_f_Mfeed_f271 (v := .int 12) vF197 dX12_feed_106 ?_
  refine lv_iconst (v := 1) cx.1 cx.2.1 dX12_feed_109 (by decide) ?_
  refine lv_iadd cx.1 cx.2.1 dX12_feed_110 ?_
  refine lv_topi (fun z213 ez213 => ?_)
  obtain rfl : z213 = 13 := ez213.trans (by decide)
  obtain ⟨F215, eF215⟩ : ∃ F1, F1 = F197.set 2 (.int 13) := ⟨_, rfl⟩
  have lF215 : F215.length = 137 := by rw [eF215, List.length_set]; exact lF197
  have vF215 : F215[2]? = some (.int 13) := by rw [eF215]; exact fl_self (by rw [lF197]; decide)
  refine hp_put (C := RX12) (T := TX12) (N := 137) (ci := 12) (fs' := F215) cx hw i_f_Mfeed_X12 tyX12_ok nmX12 rfl f212 2 (by decide) m_f_Mfeed_f271 rfl  rfl rfl (by rw [lF197]; decide) eF215.symm dX12_feed_111 (fun g214 H locs eg214 hw => ?_)
  have f216 : g214 h = some (.inr (12, F215)) := (by rw [eg214]; exact hp_up_self _ _ _)
  refine lv_iinc (v := 13) (lv' := [(6, .int 13), (7, .int x3), (0, .ref h), (1, .int x0), (2, .int x1), (3, .int x2), (4, .int x3), (5, .int x4)]) cx.1 cx.2.1 dX12_feed_114 hl (k := 1) rfl (by decide) (by decide) rfl (fun ls hl => ?_)
  refine lv_goto (tgt := 23) cx.1 cx.2.1 dX12_feed_117 (by decide) ?_
  refine lv_iload cx.1 cx.2.1 dX12_feed_23 (lv_at hl 0 rfl) ?_
  refine lv_bipush (v := 20) cx.1 cx.2.1 dX12_feed_25 (by decide) ?_
  refine lv_icmp_ge (tgt := 120) cx.1 cx.2.1 dX12_feed_27 (by decide) (fun c27_217 => ?_) (fun c27_217 => ?_)
  · exact absurd c27_217 (by decide)
  refine lv_iload cx.1 cx.2.1 dX12_feed_30 (lv_at hl 0 rfl) ?_
  refine lv_iconst (v := 4) cx.1 cx.2.1 dX12_feed_32 (by decide) ?_
  refine lv_icmp_ge (tgt := 40) cx.1 cx.2.1 dX12_feed_33 (by decide) (fun c33_218 => ?_) (fun c33_218 => ?_)
  rotate_left
  · exact absurd (by decide) c33_218
  refine lv_iload cx.1 cx.2.1 dX12_feed_40 (lv_at hl 0 rfl) ?_
  refine lv_bipush (v := 8) cx.1 cx.2.1 dX12_feed_42 (by decide) ?_
  refine lv_icmp_ge (tgt := 51) cx.1 cx.2.1 dX12_feed_44 (by decide) (fun c44_219 => ?_) (fun c44_219 => ?_)
  rotate_left
  · exact absurd (by decide) c44_219
  refine lv_iload cx.1 cx.2.1 dX12_feed_51 (lv_at hl 0 rfl) ?_
  refine lv_bipush (v := 12) cx.1 cx.2.1 dX12_feed_53 (by decide) ?_
  refine lv_icmp_ge (tgt := 62) cx.1 cx.2.1 dX12_feed_55 (by decide) (fun c55_220 => ?_) (fun c55_220 => ?_)
  rotate_left
  · exact absurd (by decide) c55_220
  refine lv_iload cx.1 cx.2.1 dX12_feed_62 (lv_at hl 0 rfl) ?_
  refine lv_bipush (v := 16) cx.1 cx.2.1 dX12_feed_64 (by decide) ?_
  refine lv_icmp_ge (tgt := 74) cx.1 cx.2.1 dX12_feed_66 (by decide) (fun c66_221 => ?_) (fun c66_221 => ?_)
  · exact absurd c66_221 (by decide)
  refine lv_iload cx.1 cx.2.1 dX12_feed_69 (lv_at hl 6 rfl) ?_
  refine lv_goto (tgt := 76) cx.1 cx.2.1 dX12_feed_71 (by decide) ?_
  refine lv_istore (lv' := [(7, .int x3), (6, .int 13), (0, .ref h), (1, .int x0), (2, .int x1), (3, .int x2), (4, .int x3), (5, .int x4)]) cx.1 cx.2.1 dX12_feed_76 hl (by decide) rfl (fun ls hl => ?_)
  refine lv_aload_n cx.1 cx.2.1 dX12_feed_78 rfl (lv_at hl 2 rfl) ?_
  have v222 : F215[1]? = some (.ref (r 1)) := by rw [eF215]; exact (fl_ne (by decide)).trans v204
  refine hp_get (C := RX12) (T := TX12) (N := 137) (ci := 12) cx hw i_f_Mfeed_X12 rfl f216 1 (by decide) m_f_Mfeed_f9 (v := .ref (r 1)) v222 dX12_feed_79 ?_
  refine lv_aload_n cx.1 cx.2.1 dX12_feed_82 rfl (lv_at hl 2 rfl) ?_
  refine hp_get (C := RX12) (T := TX12) (N := 137) (ci := 12) cx hw i_f_Mfeed_X12 rfl f216 2 (by decide) m_f_Mfeed_f271 (v := .int 13) vF215 dX12_feed_83 ?_
  refine lv_iload cx.1 cx.2.1 dX12_feed_86 (lv_at hl 0 rfl) ?_
  refine lv_bipush (v := 24) cx.1 cx.2.1 dX12_feed_88 (by decide) ?_
  refine lv_bipush (v := 8) cx.1 cx.2.1 dX12_feed_90 (by decide) ?_
  refine lv_iload cx.1 cx.2.1 dX12_feed_92 (lv_at hl 1 rfl) ?_
  refine lv_iconst (v := 4) cx.1 cx.2.1 dX12_feed_94 (by decide) ?_
  refine lv_irem cx.1 cx.2.1 dX12_feed_95 (by decide) ?_
  refine lv_topi (fun z223 ez223 => ?_)
  obtain rfl : z223 = 1 := ez223.trans (by decide)
  refine lv_imul cx.1 cx.2.1 dX12_feed_96 ?_
  refine lv_topi (fun z224 ez224 => ?_)
  obtain rfl : z224 = 8 := ez224.trans (by decide)
  refine lv_isub cx.1 cx.2.1 dX12_feed_97 ?_
  refine lv_topi (fun z225 ez225 => ?_)
  obtain rfl : z225 = 16 := ez225.trans (by decide)
  refine lv_ishr cx.1 cx.2.1 dX12_feed_98 ?_
  refine lv_sipush (v := 255) cx.1 cx.2.1 dX12_feed_99 (by decide) ?_
  refine lv_iand cx.1 cx.2.1 dX12_feed_102 ?_
  have f226 : g214 (r 1) = some (.inl (cA 1, 3000, .inl fa211)) := (by rw [eg214]; exact (hp_up_ne _ _ (hp_neAO f210 f212)).trans f210)
  refine hp_iast cx hw 1 f226 rfl (by unfold vp_in; decide) dX12_feed_103 (fun g227 H locs eg227 hw => ?_)
  have f228 : g227 (r 1) = some (.inl (cA 1, 3000, .inl (upd fa211 (13 : Int32).toNatClampNeg ((x3 >>> (16 &&& 31)) &&& 255)))) := (by rw [eg227]; exact hp_up_self _ _ _)
  generalize (upd fa211 (13 : Int32).toNatClampNeg ((x3 >>> (16 &&& 31)) &&& 255)) = fa229 at f228
  refine lv_aload_n cx.1 cx.2.1 dX12_feed_104 rfl (lv_at hl 2 rfl) ?_
  refine lv_dup cx.1 cx.2.1 dX12_feed_105 rfl ?_
  have f230 : g227 h = some (.inr (12, F215)) := (by rw [eg227]; exact (hp_up_ne _ _ (hp_neOA f216 f226)).trans f216)
  refine hp_get (C := RX12) (T := TX12) (N := 137) (ci := 12) cx hw i_f_Mfeed_X12 rfl f230 2 (by decide) m_f_Mfeed_f271 (v := .int 13) vF215 dX12_feed_106 ?_
  refine lv_iconst (v := 1) cx.1 cx.2.1 dX12_feed_109 (by decide) ?_
  refine lv_iadd cx.1 cx.2.1 dX12_feed_110 ?_
  refine lv_topi (fun z231 ez231 => ?_)
  obtain rfl : z231 = 14 := ez231.trans (by decide)
  obtain ⟨F233, eF233⟩ : ∃ F1, F1 = F215.set 2 (.int 14) := ⟨_, rfl⟩
  have lF233 : F233.length = 137 := by rw [eF233, List.length_set]; exact lF215
  have vF233 : F233[2]? = some (.int 14) := by rw [eF233]; exact fl_self (by rw [lF215]; decide)
  refine hp_put (C := RX12) (T := TX12) (N := 137) (ci := 12) (fs' := F233) cx hw i_f_Mfeed_X12 tyX12_ok nmX12 rfl f230 2 (by decide) m_f_Mfeed_f271 rfl  rfl rfl (by rw [lF215]; decide) eF233.symm dX12_feed_111 (fun g232 H locs eg232 hw => ?_)
  have f234 : g232 h = some (.inr (12, F233)) := (by rw [eg232]; exact hp_up_self _ _ _)
  refine lv_iinc (v := 14) (lv' := [(6, .int 14), (7, .int x3), (0, .ref h), (1, .int x0), (2, .int x1), (3, .int x2), (4, .int x3), (5, .int x4)]) cx.1 cx.2.1 dX12_feed_114 hl (k := 1) rfl (by decide) (by decide) rfl (fun ls hl => ?_)
  refine lv_goto (tgt := 23) cx.1 cx.2.1 dX12_feed_117 (by decide) ?_
  refine lv_iload cx.1 cx.2.1 dX12_feed_23 (lv_at hl 0 rfl) ?_
  refine lv_bipush (v := 20) cx.1 cx.2.1 dX12_feed_25 (by decide) ?_
  refine lv_icmp_ge (tgt := 120) cx.1 cx.2.1 dX12_feed_27 (by decide) (fun c27_235 => ?_) (fun c27_235 => ?_)
  · exact absurd c27_235 (by decide)
  refine lv_iload cx.1 cx.2.1 dX12_feed_30 (lv_at hl 0 rfl) ?_
  refine lv_iconst (v := 4) cx.1 cx.2.1 dX12_feed_32 (by decide) ?_
  refine lv_icmp_ge (tgt := 40) cx.1 cx.2.1 dX12_feed_33 (by decide) (fun c33_236 => ?_) (fun c33_236 => ?_)
  rotate_left
  · exact absurd (by decide) c33_236
  refine lv_iload cx.1 cx.2.1 dX12_feed_40 (lv_at hl 0 rfl) ?_
  refine lv_bipush (v := 8) cx.1 cx.2.1 dX12_feed_42 (by decide) ?_
  refine lv_icmp_ge (tgt := 51) cx.1 cx.2.1 dX12_feed_44 (by decide) (fun c44_237 => ?_) (fun c44_237 => ?_)
  rotate_left
  · exact absurd (by decide) c44_237
  refine lv_iload cx.1 cx.2.1 dX12_feed_51 (lv_at hl 0 rfl) ?_
  refine lv_bipush (v := 12) cx.1 cx.2.1 dX12_feed_53 (by decide) ?_
  refine lv_icmp_ge (tgt := 62) cx.1 cx.2.1 dX12_feed_55 (by decide) (fun c55_238 => ?_) (fun c55_238 => ?_)
  rotate_left
  · exact absurd (by decide) c55_238
  refine lv_iload cx.1 cx.2.1 dX12_feed_62 (lv_at hl 0 rfl) ?_
  refine lv_bipush (v := 16) cx.1 cx.2.1 dX12_feed_64 (by decide) ?_
  refine lv_icmp_ge (tgt := 74) cx.1 cx.2.1 dX12_feed_66 (by decide) (fun c66_239 => ?_) (fun c66_239 => ?_)
  · exact absurd c66_239 (by decide)
  refine lv_iload cx.1 cx.2.1 dX12_feed_69 (lv_at hl 6 rfl) ?_
  refine lv_goto (tgt := 76) cx.1 cx.2.1 dX12_feed_71 (by decide) ?_
  refine lv_istore (lv' := [(7, .int x3), (6, .int 14), (0, .ref h), (1, .int x0), (2, .int x1), (3, .int x2), (4, .int x3), (5, .int x4)]) cx.1 cx.2.1 dX12_feed_76 hl (by decide) rfl (fun ls hl => ?_)
  refine lv_aload_n cx.1 cx.2.1 dX12_feed_78 rfl (lv_at hl 2 rfl) ?_
  have v240 : F233[1]? = some (.ref (r 1)) := by rw [eF233]; exact (fl_ne (by decide)).trans v222
  refine hp_get (C := RX12) (T := TX12) (N := 137) (ci := 12) cx hw i_f_Mfeed_X12 rfl f234 1 (by decide) m_f_Mfeed_f9 (v := .ref (r 1)) v240 dX12_feed_79 ?_
  refine lv_aload_n cx.1 cx.2.1 dX12_feed_82 rfl (lv_at hl 2 rfl) ?_
  refine hp_get (C := RX12) (T := TX12) (N := 137) (ci := 12) cx hw i_f_Mfeed_X12 rfl f234 2 (by decide) m_f_Mfeed_f271 (v := .int 14) vF233 dX12_feed_83 ?_
  refine lv_iload cx.1 cx.2.1 dX12_feed_86 (lv_at hl 0 rfl) ?_
  refine lv_bipush (v := 24) cx.1 cx.2.1 dX12_feed_88 (by decide) ?_
  refine lv_bipush (v := 8) cx.1 cx.2.1 dX12_feed_90 (by decide) ?_
  refine lv_iload cx.1 cx.2.1 dX12_feed_92 (lv_at hl 1 rfl) ?_
  refine lv_iconst (v := 4) cx.1 cx.2.1 dX12_feed_94 (by decide) ?_
  refine lv_irem cx.1 cx.2.1 dX12_feed_95 (by decide) ?_
  refine lv_topi (fun z241 ez241 => ?_)
  obtain rfl : z241 = 2 := ez241.trans (by decide)
  refine lv_imul cx.1 cx.2.1 dX12_feed_96 ?_
  refine lv_topi (fun z242 ez242 => ?_)
  obtain rfl : z242 = 16 := ez242.trans (by decide)
  refine lv_isub cx.1 cx.2.1 dX12_feed_97 ?_
  refine lv_topi (fun z243 ez243 => ?_)
  obtain rfl : z243 = 8 := ez243.trans (by decide)
  refine lv_ishr cx.1 cx.2.1 dX12_feed_98 ?_
  refine lv_sipush (v := 255) cx.1 cx.2.1 dX12_feed_99 (by decide) ?_
  refine lv_iand cx.1 cx.2.1 dX12_feed_102 ?_
  have f244 : g232 (r 1) = some (.inl (cA 1, 3000, .inl fa229)) := (by rw [eg232]; exact (hp_up_ne _ _ (hp_neAO f228 f230)).trans f228)
  refine hp_iast cx hw 1 f244 rfl (by unfold vp_in; decide) dX12_feed_103 (fun g245 H locs eg245 hw => ?_)
  have f246 : g245 (r 1) = some (.inl (cA 1, 3000, .inl (upd fa229 (14 : Int32).toNatClampNeg ((x3 >>> (8 &&& 31)) &&& 255)))) := (by rw [eg245]; exact hp_up_self _ _ _)
  generalize (upd fa229 (14 : Int32).toNatClampNeg ((x3 >>> (8 &&& 31)) &&& 255)) = fa247 at f246
  refine lv_aload_n cx.1 cx.2.1 dX12_feed_104 rfl (lv_at hl 2 rfl) ?_
  refine lv_dup cx.1 cx.2.1 dX12_feed_105 rfl ?_
  have f248 : g245 h = some (.inr (12, F233)) := (by rw [eg245]; exact (hp_up_ne _ _ (hp_neOA f234 f244)).trans f234)
  refine hp_get (C := RX12) (T := TX12) (N := 137) (ci := 12) cx hw i_f_Mfeed_X12 rfl f248 2 (by decide) m_f_Mfeed_f271 (v := .int 14) vF233 dX12_feed_106 ?_
  refine lv_iconst (v := 1) cx.1 cx.2.1 dX12_feed_109 (by decide) ?_
  refine lv_iadd cx.1 cx.2.1 dX12_feed_110 ?_
  refine lv_topi (fun z249 ez249 => ?_)
  obtain rfl : z249 = 15 := ez249.trans (by decide)
  obtain ⟨F251, eF251⟩ : ∃ F1, F1 = F233.set 2 (.int 15) := ⟨_, rfl⟩
  have lF251 : F251.length = 137 := by rw [eF251, List.length_set]; exact lF233
  have vF251 : F251[2]? = some (.int 15) := by rw [eF251]; exact fl_self (by rw [lF233]; decide)
  refine hp_put (C := RX12) (T := TX12) (N := 137) (ci := 12) (fs' := F251) cx hw i_f_Mfeed_X12 tyX12_ok nmX12 rfl f248 2 (by decide) m_f_Mfeed_f271 rfl  rfl rfl (by rw [lF233]; decide) eF251.symm dX12_feed_111 (fun g250 H locs eg250 hw => ?_)
  have f252 : g250 h = some (.inr (12, F251)) := (by rw [eg250]; exact hp_up_self _ _ _)
  refine lv_iinc (v := 15) (lv' := [(6, .int 15), (7, .int x3), (0, .ref h), (1, .int x0), (2, .int x1), (3, .int x2), (4, .int x3), (5, .int x4)]) cx.1 cx.2.1 dX12_feed_114 hl (k := 1) rfl (by decide) (by decide) rfl (fun ls hl => ?_)
  refine lv_goto (tgt := 23) cx.1 cx.2.1 dX12_feed_117 (by decide) ?_
  refine lv_iload cx.1 cx.2.1 dX12_feed_23 (lv_at hl 0 rfl) ?_
  refine lv_bipush (v := 20) cx.1 cx.2.1 dX12_feed_25 (by decide) ?_
  refine lv_icmp_ge (tgt := 120) cx.1 cx.2.1 dX12_feed_27 (by decide) (fun c27_253 => ?_) (fun c27_253 => ?_)
  · exact absurd c27_253 (by decide)
  refine lv_iload cx.1 cx.2.1 dX12_feed_30 (lv_at hl 0 rfl) ?_
  refine lv_iconst (v := 4) cx.1 cx.2.1 dX12_feed_32 (by decide) ?_
  refine lv_icmp_ge (tgt := 40) cx.1 cx.2.1 dX12_feed_33 (by decide) (fun c33_254 => ?_) (fun c33_254 => ?_)
  rotate_left
  · exact absurd (by decide) c33_254
  refine lv_iload cx.1 cx.2.1 dX12_feed_40 (lv_at hl 0 rfl) ?_
  refine lv_bipush (v := 8) cx.1 cx.2.1 dX12_feed_42 (by decide) ?_
  refine lv_icmp_ge (tgt := 51) cx.1 cx.2.1 dX12_feed_44 (by decide) (fun c44_255 => ?_) (fun c44_255 => ?_)
  rotate_left
  · exact absurd (by decide) c44_255
  refine lv_iload cx.1 cx.2.1 dX12_feed_51 (lv_at hl 0 rfl) ?_
  refine lv_bipush (v := 12) cx.1 cx.2.1 dX12_feed_53 (by decide) ?_
  refine lv_icmp_ge (tgt := 62) cx.1 cx.2.1 dX12_feed_55 (by decide) (fun c55_256 => ?_) (fun c55_256 => ?_)
  rotate_left
  · exact absurd (by decide) c55_256
  refine lv_iload cx.1 cx.2.1 dX12_feed_62 (lv_at hl 0 rfl) ?_
  refine lv_bipush (v := 16) cx.1 cx.2.1 dX12_feed_64 (by decide) ?_
  refine lv_icmp_ge (tgt := 74) cx.1 cx.2.1 dX12_feed_66 (by decide) (fun c66_257 => ?_) (fun c66_257 => ?_)
  · exact absurd c66_257 (by decide)
  refine lv_iload cx.1 cx.2.1 dX12_feed_69 (lv_at hl 6 rfl) ?_
  refine lv_goto (tgt := 76) cx.1 cx.2.1 dX12_feed_71 (by decide) ?_
  refine lv_istore (lv' := [(7, .int x3), (6, .int 15), (0, .ref h), (1, .int x0), (2, .int x1), (3, .int x2), (4, .int x3), (5, .int x4)]) cx.1 cx.2.1 dX12_feed_76 hl (by decide) rfl (fun ls hl => ?_)
  refine lv_aload_n cx.1 cx.2.1 dX12_feed_78 rfl (lv_at hl 2 rfl) ?_
  have v258 : F251[1]? = some (.ref (r 1)) := by rw [eF251]; exact (fl_ne (by decide)).trans v240
  refine hp_get (C := RX12) (T := TX12) (N := 137) (ci := 12) cx hw i_f_Mfeed_X12 rfl f252 1 (by decide) m_f_Mfeed_f9 (v := .ref (r 1)) v258 dX12_feed_79 ?_
  refine lv_aload_n cx.1 cx.2.1 dX12_feed_82 rfl (lv_at hl 2 rfl) ?_
  refine hp_get (C := RX12) (T := TX12) (N := 137) (ci := 12) cx hw i_f_Mfeed_X12 rfl f252 2 (by decide) m_f_Mfeed_f271 (v := .int 15) vF251 dX12_feed_83 ?_
  refine lv_iload cx.1 cx.2.1 dX12_feed_86 (lv_at hl 0 rfl) ?_
  refine lv_bipush (v := 24) cx.1 cx.2.1 dX12_feed_88 (by decide) ?_
  refine lv_bipush (v := 8) cx.1 cx.2.1 dX12_feed_90 (by decide) ?_
  refine lv_iload cx.1 cx.2.1 dX12_feed_92 (lv_at hl 1 rfl) ?_
  refine lv_iconst (v := 4) cx.1 cx.2.1 dX12_feed_94 (by decide) ?_
  refine lv_irem cx.1 cx.2.1 dX12_feed_95 (by decide) ?_
  refine lv_topi (fun z259 ez259 => ?_)
  obtain rfl : z259 = 3 := ez259.trans (by decide)
  refine lv_imul cx.1 cx.2.1 dX12_feed_96 ?_
  refine lv_topi (fun z260 ez260 => ?_)
  obtain rfl : z260 = 24 := ez260.trans (by decide)
  refine lv_isub cx.1 cx.2.1 dX12_feed_97 ?_
  refine lv_topi (fun z261 ez261 => ?_)
  obtain rfl : z261 = 0 := ez261.trans (by decide)
  refine lv_ishr cx.1 cx.2.1 dX12_feed_98 ?_
  refine lv_sipush (v := 255) cx.1 cx.2.1 dX12_feed_99 (by decide) ?_
  refine lv_iand cx.1 cx.2.1 dX12_feed_102 ?_
  have f262 : g250 (r 1) = some (.inl (cA 1, 3000, .inl fa247)) := (by rw [eg250]; exact (hp_up_ne _ _ (hp_neAO f246 f248)).trans f246)
  refine hp_iast cx hw 1 f262 rfl (by unfold vp_in; decide) dX12_feed_103 (fun g263 H locs eg263 hw => ?_)
  have f264 : g263 (r 1) = some (.inl (cA 1, 3000, .inl (upd fa247 (15 : Int32).toNatClampNeg ((x3 >>> (0 &&& 31)) &&& 255)))) := (by rw [eg263]; exact hp_up_self _ _ _)
  generalize (upd fa247 (15 : Int32).toNatClampNeg ((x3 >>> (0 &&& 31)) &&& 255)) = fa265 at f264
  refine lv_aload_n cx.1 cx.2.1 dX12_feed_104 rfl (lv_at hl 2 rfl) ?_
  refine lv_dup cx.1 cx.2.1 dX12_feed_105 rfl ?_
  have f266 : g263 h = some (.inr (12, F251)) := (by rw [eg263]; exact (hp_up_ne _ _ (hp_neOA f252 f262)).trans f252)
  refine hp_get (C := RX12) (T := TX12) (N := 137) (ci := 12) cx hw i_f_Mfeed_X12 rfl f266 2 (by decide) m_f_Mfeed_f271 (v := .int 15) vF251 dX12_feed_106 ?_
  refine lv_iconst (v := 1) cx.1 cx.2.1 dX12_feed_109 (by decide) ?_
  refine lv_iadd cx.1 cx.2.1 dX12_feed_110 ?_
  refine lv_topi (fun z267 ez267 => ?_)
  obtain rfl : z267 = 16 := ez267.trans (by decide)
  obtain ⟨F269, eF269⟩ : ∃ F1, F1 = F251.set 2 (.int 16) := ⟨_, rfl⟩
  have lF269 : F269.length = 137 := by rw [eF269, List.length_set]; exact lF251
  have vF269 : F269[2]? = some (.int 16) := by rw [eF269]; exact fl_self (by rw [lF251]; decide)
  refine hp_put (C := RX12) (T := TX12) (N := 137) (ci := 12) (fs' := F269) cx hw i_f_Mfeed_X12 tyX12_ok nmX12 rfl f266 2 (by decide) m_f_Mfeed_f271 rfl  rfl rfl (by rw [lF251]; decide) eF269.symm dX12_feed_111 (fun g268 H locs eg268 hw => ?_)
  have f270 : g268 h = some (.inr (12, F269)) := (by rw [eg268]; exact hp_up_self _ _ _)
  refine lv_iinc (v := 16) (lv' := [(6, .int 16), (7, .int x3), (0, .ref h), (1, .int x0), (2, .int x1), (3, .int x2), (4, .int x3), (5, .int x4)]) cx.1 cx.2.1 dX12_feed_114 hl (k := 1) rfl (by decide) (by decide) rfl (fun ls hl => ?_)
  refine lv_goto (tgt := 23) cx.1 cx.2.1 dX12_feed_117 (by decide) ?_
  refine lv_iload cx.1 cx.2.1 dX12_feed_23 (lv_at hl 0 rfl) ?_
  refine lv_bipush (v := 20) cx.1 cx.2.1 dX12_feed_25 (by decide) ?_
  refine lv_icmp_ge (tgt := 120) cx.1 cx.2.1 dX12_feed_27 (by decide) (fun c27_271 => ?_) (fun c27_271 => ?_)
  · exact absurd c27_271 (by decide)
  refine lv_iload cx.1 cx.2.1 dX12_feed_30 (lv_at hl 0 rfl) ?_
  refine lv_iconst (v := 4) cx.1 cx.2.1 dX12_feed_32 (by decide) ?_
  refine lv_icmp_ge (tgt := 40) cx.1 cx.2.1 dX12_feed_33 (by decide) (fun c33_272 => ?_) (fun c33_272 => ?_)
  rotate_left
  · exact absurd (by decide) c33_272
  refine lv_iload cx.1 cx.2.1 dX12_feed_40 (lv_at hl 0 rfl) ?_
  refine lv_bipush (v := 8) cx.1 cx.2.1 dX12_feed_42 (by decide) ?_
  refine lv_icmp_ge (tgt := 51) cx.1 cx.2.1 dX12_feed_44 (by decide) (fun c44_273 => ?_) (fun c44_273 => ?_)
  rotate_left
  · exact absurd (by decide) c44_273
  refine lv_iload cx.1 cx.2.1 dX12_feed_51 (lv_at hl 0 rfl) ?_
  refine lv_bipush (v := 12) cx.1 cx.2.1 dX12_feed_53 (by decide) ?_
  refine lv_icmp_ge (tgt := 62) cx.1 cx.2.1 dX12_feed_55 (by decide) (fun c55_274 => ?_) (fun c55_274 => ?_)
  rotate_left
  · exact absurd (by decide) c55_274
  refine lv_iload cx.1 cx.2.1 dX12_feed_62 (lv_at hl 0 rfl) ?_
  refine lv_bipush (v := 16) cx.1 cx.2.1 dX12_feed_64 (by decide) ?_
  refine lv_icmp_ge (tgt := 74) cx.1 cx.2.1 dX12_feed_66 (by decide) (fun c66_275 => ?_) (fun c66_275 => ?_)
  rotate_left
  · exact absurd (by decide) c66_275
  refine lv_iload cx.1 cx.2.1 dX12_feed_74 (lv_at hl 7 rfl) ?_
  refine lv_istore (lv' := [(7, .int x4), (6, .int 16), (0, .ref h), (1, .int x0), (2, .int x1), (3, .int x2), (4, .int x3), (5, .int x4)]) cx.1 cx.2.1 dX12_feed_76 hl (by decide) rfl (fun ls hl => ?_)
  refine lv_aload_n cx.1 cx.2.1 dX12_feed_78 rfl (lv_at hl 2 rfl) ?_
  have v276 : F269[1]? = some (.ref (r 1)) := by rw [eF269]; exact (fl_ne (by decide)).trans v258
  refine hp_get (C := RX12) (T := TX12) (N := 137) (ci := 12) cx hw i_f_Mfeed_X12 rfl f270 1 (by decide) m_f_Mfeed_f9 (v := .ref (r 1)) v276 dX12_feed_79 ?_
  refine lv_aload_n cx.1 cx.2.1 dX12_feed_82 rfl (lv_at hl 2 rfl) ?_
  refine hp_get (C := RX12) (T := TX12) (N := 137) (ci := 12) cx hw i_f_Mfeed_X12 rfl f270 2 (by decide) m_f_Mfeed_f271 (v := .int 16) vF269 dX12_feed_83 ?_
  refine lv_iload cx.1 cx.2.1 dX12_feed_86 (lv_at hl 0 rfl) ?_
  refine lv_bipush (v := 24) cx.1 cx.2.1 dX12_feed_88 (by decide) ?_
  refine lv_bipush (v := 8) cx.1 cx.2.1 dX12_feed_90 (by decide) ?_
  refine lv_iload cx.1 cx.2.1 dX12_feed_92 (lv_at hl 1 rfl) ?_
  refine lv_iconst (v := 4) cx.1 cx.2.1 dX12_feed_94 (by decide) ?_
  refine lv_irem cx.1 cx.2.1 dX12_feed_95 (by decide) ?_
  refine lv_topi (fun z277 ez277 => ?_)
  obtain rfl : z277 = 0 := ez277.trans (by decide)
  refine lv_imul cx.1 cx.2.1 dX12_feed_96 ?_
  refine lv_topi (fun z278 ez278 => ?_)
  obtain rfl : z278 = 0 := ez278.trans (by decide)
  refine lv_isub cx.1 cx.2.1 dX12_feed_97 ?_
  refine lv_topi (fun z279 ez279 => ?_)
  obtain rfl : z279 = 24 := ez279.trans (by decide)
  refine lv_ishr cx.1 cx.2.1 dX12_feed_98 ?_
  refine lv_sipush (v := 255) cx.1 cx.2.1 dX12_feed_99 (by decide) ?_
  refine lv_iand cx.1 cx.2.1 dX12_feed_102 ?_
  have f280 : g268 (r 1) = some (.inl (cA 1, 3000, .inl fa265)) := (by rw [eg268]; exact (hp_up_ne _ _ (hp_neAO f264 f266)).trans f264)
  refine hp_iast cx hw 1 f280 rfl (by unfold vp_in; decide) dX12_feed_103 (fun g281 H locs eg281 hw => ?_)
  have f282 : g281 (r 1) = some (.inl (cA 1, 3000, .inl (upd fa265 (16 : Int32).toNatClampNeg ((x4 >>> (24 &&& 31)) &&& 255)))) := (by rw [eg281]; exact hp_up_self _ _ _)
  generalize (upd fa265 (16 : Int32).toNatClampNeg ((x4 >>> (24 &&& 31)) &&& 255)) = fa283 at f282
  refine lv_aload_n cx.1 cx.2.1 dX12_feed_104 rfl (lv_at hl 2 rfl) ?_
  refine lv_dup cx.1 cx.2.1 dX12_feed_105 rfl ?_
  have f284 : g281 h = some (.inr (12, F269)) := (by rw [eg281]; exact (hp_up_ne _ _ (hp_neOA f270 f280)).trans f270)
  refine hp_get (C := RX12) (T := TX12) (N := 137) (ci := 12) cx hw i_f_Mfeed_X12 rfl f284 2 (by decide) m_f_Mfeed_f271 (v := .int 16) vF269 dX12_feed_106 ?_
  refine lv_iconst (v := 1) cx.1 cx.2.1 dX12_feed_109 (by decide) ?_
  refine lv_iadd cx.1 cx.2.1 dX12_feed_110 ?_
  refine lv_topi (fun z285 ez285 => ?_)
  obtain rfl : z285 = 17 := ez285.trans (by decide)
  obtain ⟨F287, eF287⟩ : ∃ F1, F1 = F269.set 2 (.int 17) := ⟨_, rfl⟩
  have lF287 : F287.length = 137 := by rw [eF287, List.length_set]; exact lF269
  have vF287 : F287[2]? = some (.int 17) := by rw [eF287]; exact fl_self (by rw [lF269]; decide)
  refine hp_put (C := RX12) (T := TX12) (N := 137) (ci := 12) (fs' := F287) cx hw i_f_Mfeed_X12 tyX12_ok nmX12 rfl f284 2 (by decide) m_f_Mfeed_f271 rfl  rfl rfl (by rw [lF269]; decide) eF287.symm dX12_feed_111 (fun g286 H locs eg286 hw => ?_)
  have f288 : g286 h = some (.inr (12, F287)) := (by rw [eg286]; exact hp_up_self _ _ _)
  refine lv_iinc (v := 17) (lv' := [(6, .int 17), (7, .int x4), (0, .ref h), (1, .int x0), (2, .int x1), (3, .int x2), (4, .int x3), (5, .int x4)]) cx.1 cx.2.1 dX12_feed_114 hl (k := 1) rfl (by decide) (by decide) rfl (fun ls hl => ?_)
  refine lv_goto (tgt := 23) cx.1 cx.2.1 dX12_feed_117 (by decide) ?_
  refine lv_iload cx.1 cx.2.1 dX12_feed_23 (lv_at hl 0 rfl) ?_
  refine lv_bipush (v := 20) cx.1 cx.2.1 dX12_feed_25 (by decide) ?_
  refine lv_icmp_ge (tgt := 120) cx.1 cx.2.1 dX12_feed_27 (by decide) (fun c27_289 => ?_) (fun c27_289 => ?_)
  · exact absurd c27_289 (by decide)
  refine lv_iload cx.1 cx.2.1 dX12_feed_30 (lv_at hl 0 rfl) ?_
  refine lv_iconst (v := 4) cx.1 cx.2.1 dX12_feed_32 (by decide) ?_
  refine lv_icmp_ge (tgt := 40) cx.1 cx.2.1 dX12_feed_33 (by decide) (fun c33_290 => ?_) (fun c33_290 => ?_)
  rotate_left
  · exact absurd (by decide) c33_290
  refine lv_iload cx.1 cx.2.1 dX12_feed_40 (lv_at hl 0 rfl) ?_
  refine lv_bipush (v := 8) cx.1 cx.2.1 dX12_feed_42 (by decide) ?_
  refine lv_icmp_ge (tgt := 51) cx.1 cx.2.1 dX12_feed_44 (by decide) (fun c44_291 => ?_) (fun c44_291 => ?_)
  rotate_left
  · exact absurd (by decide) c44_291
  refine lv_iload cx.1 cx.2.1 dX12_feed_51 (lv_at hl 0 rfl) ?_
  refine lv_bipush (v := 12) cx.1 cx.2.1 dX12_feed_53 (by decide) ?_
  refine lv_icmp_ge (tgt := 62) cx.1 cx.2.1 dX12_feed_55 (by decide) (fun c55_292 => ?_) (fun c55_292 => ?_)
  rotate_left
  · exact absurd (by decide) c55_292
  refine lv_iload cx.1 cx.2.1 dX12_feed_62 (lv_at hl 0 rfl) ?_
  refine lv_bipush (v := 16) cx.1 cx.2.1 dX12_feed_64 (by decide) ?_
  refine lv_icmp_ge (tgt := 74) cx.1 cx.2.1 dX12_feed_66 (by decide) (fun c66_293 => ?_) (fun c66_293 => ?_)
  rotate_left
  · exact absurd (by decide) c66_293
  refine lv_iload cx.1 cx.2.1 dX12_feed_74 (lv_at hl 7 rfl) ?_
  refine lv_istore (lv' := [(7, .int x4), (6, .int 17), (0, .ref h), (1, .int x0), (2, .int x1), (3, .int x2), (4, .int x3), (5, .int x4)]) cx.1 cx.2.1 dX12_feed_76 hl (by decide) rfl (fun ls hl => ?_)
  refine lv_aload_n cx.1 cx.2.1 dX12_feed_78 rfl (lv_at hl 2 rfl) ?_
  have v294 : F287[1]? = some (.ref (r 1)) := by rw [eF287]; exact (fl_ne (by decide)).trans v276
  refine hp_get (C := RX12) (T := TX12) (N := 137) (ci := 12) cx hw i_f_Mfeed_X12 rfl f288 1 (by decide) m_f_Mfeed_f9 (v := .ref (r 1)) v294 dX12_feed_79 ?_
  refine lv_aload_n cx.1 cx.2.1 dX12_feed_82 rfl (lv_at hl 2 rfl) ?_
  refine hp_get (C := RX12) (T := TX12) (N := 137) (ci := 12) cx hw i_f_Mfeed_X12 rfl f288 2 (by decide) m_f_Mfeed_f271 (v := .int 17) vF287 dX12_feed_83 ?_
  refine lv_iload cx.1 cx.2.1 dX12_feed_86 (lv_at hl 0 rfl) ?_
  refine lv_bipush (v := 24) cx.1 cx.2.1 dX12_feed_88 (by decide) ?_
  refine lv_bipush (v := 8) cx.1 cx.2.1 dX12_feed_90 (by decide) ?_
  refine lv_iload cx.1 cx.2.1 dX12_feed_92 (lv_at hl 1 rfl) ?_
  refine lv_iconst (v := 4) cx.1 cx.2.1 dX12_feed_94 (by decide) ?_
  refine lv_irem cx.1 cx.2.1 dX12_feed_95 (by decide) ?_
  refine lv_topi (fun z295 ez295 => ?_)
  obtain rfl : z295 = 1 := ez295.trans (by decide)
  refine lv_imul cx.1 cx.2.1 dX12_feed_96 ?_
  refine lv_topi (fun z296 ez296 => ?_)
  obtain rfl : z296 = 8 := ez296.trans (by decide)
  refine lv_isub cx.1 cx.2.1 dX12_feed_97 ?_
  refine lv_topi (fun z297 ez297 => ?_)
  obtain rfl : z297 = 16 := ez297.trans (by decide)
  refine lv_ishr cx.1 cx.2.1 dX12_feed_98 ?_
  refine lv_sipush (v := 255) cx.1 cx.2.1 dX12_feed_99 (by decide) ?_
  refine lv_iand cx.1 cx.2.1 dX12_feed_102 ?_
  have f298 : g286 (r 1) = some (.inl (cA 1, 3000, .inl fa283)) := (by rw [eg286]; exact (hp_up_ne _ _ (hp_neAO f282 f284)).trans f282)
  refine hp_iast cx hw 1 f298 rfl (by unfold vp_in; decide) dX12_feed_103 (fun g299 H locs eg299 hw => ?_)
  have f300 : g299 (r 1) = some (.inl (cA 1, 3000, .inl (upd fa283 (17 : Int32).toNatClampNeg ((x4 >>> (16 &&& 31)) &&& 255)))) := (by rw [eg299]; exact hp_up_self _ _ _)
  generalize (upd fa283 (17 : Int32).toNatClampNeg ((x4 >>> (16 &&& 31)) &&& 255)) = fa301 at f300
  refine lv_aload_n cx.1 cx.2.1 dX12_feed_104 rfl (lv_at hl 2 rfl) ?_
  refine lv_dup cx.1 cx.2.1 dX12_feed_105 rfl ?_
  have f302 : g299 h = some (.inr (12, F287)) := (by rw [eg299]; exact (hp_up_ne _ _ (hp_neOA f288 f298)).trans f288)
  refine hp_get (C := RX12) (T := TX12) (N := 137) (ci := 12) cx hw i_f_Mfeed_X12 rfl f302 2 (by decide) m_f_Mfeed_f271 (v := .int 17) vF287 dX12_feed_106 ?_
  refine lv_iconst (v := 1) cx.1 cx.2.1 dX12_feed_109 (by decide) ?_
  refine lv_iadd cx.1 cx.2.1 dX12_feed_110 ?_
  refine lv_topi (fun z303 ez303 => ?_)
  obtain rfl : z303 = 18 := ez303.trans (by decide)
  obtain ⟨F305, eF305⟩ : ∃ F1, F1 = F287.set 2 (.int 18) := ⟨_, rfl⟩
  have lF305 : F305.length = 137 := by rw [eF305, List.length_set]; exact lF287
  have vF305 : F305[2]? = some (.int 18) := by rw [eF305]; exact fl_self (by rw [lF287]; decide)
  refine hp_put (C := RX12) (T := TX12) (N := 137) (ci := 12) (fs' := F305) cx hw i_f_Mfeed_X12 tyX12_ok nmX12 rfl f302 2 (by decide) m_f_Mfeed_f271 rfl  rfl rfl (by rw [lF287]; decide) eF305.symm dX12_feed_111 (fun g304 H locs eg304 hw => ?_)
  have f306 : g304 h = some (.inr (12, F305)) := (by rw [eg304]; exact hp_up_self _ _ _)
  refine lv_iinc (v := 18) (lv' := [(6, .int 18), (7, .int x4), (0, .ref h), (1, .int x0), (2, .int x1), (3, .int x2), (4, .int x3), (5, .int x4)]) cx.1 cx.2.1 dX12_feed_114 hl (k := 1) rfl (by decide) (by decide) rfl (fun ls hl => ?_)
  refine lv_goto (tgt := 23) cx.1 cx.2.1 dX12_feed_117 (by decide) ?_
  refine lv_iload cx.1 cx.2.1 dX12_feed_23 (lv_at hl 0 rfl) ?_
  refine lv_bipush (v := 20) cx.1 cx.2.1 dX12_feed_25 (by decide) ?_
  refine lv_icmp_ge (tgt := 120) cx.1 cx.2.1 dX12_feed_27 (by decide) (fun c27_307 => ?_) (fun c27_307 => ?_)
  · exact absurd c27_307 (by decide)
  refine lv_iload cx.1 cx.2.1 dX12_feed_30 (lv_at hl 0 rfl) ?_
  refine lv_iconst (v := 4) cx.1 cx.2.1 dX12_feed_32 (by decide) ?_
  refine lv_icmp_ge (tgt := 40) cx.1 cx.2.1 dX12_feed_33 (by decide) (fun c33_308 => ?_) (fun c33_308 => ?_)
  rotate_left
  · exact absurd (by decide) c33_308
  refine lv_iload cx.1 cx.2.1 dX12_feed_40 (lv_at hl 0 rfl) ?_
  refine lv_bipush (v := 8) cx.1 cx.2.1 dX12_feed_42 (by decide) ?_
  refine lv_icmp_ge (tgt := 51) cx.1 cx.2.1 dX12_feed_44 (by decide) (fun c44_309 => ?_) (fun c44_309 => ?_)
  rotate_left
  · exact absurd (by decide) c44_309
  refine lv_iload cx.1 cx.2.1 dX12_feed_51 (lv_at hl 0 rfl) ?_
  refine lv_bipush (v := 12) cx.1 cx.2.1 dX12_feed_53 (by decide) ?_
  refine lv_icmp_ge (tgt := 62) cx.1 cx.2.1 dX12_feed_55 (by decide) (fun c55_310 => ?_) (fun c55_310 => ?_)
  rotate_left
  · exact absurd (by decide) c55_310
  refine lv_iload cx.1 cx.2.1 dX12_feed_62 (lv_at hl 0 rfl) ?_
  refine lv_bipush (v := 16) cx.1 cx.2.1 dX12_feed_64 (by decide) ?_
  refine lv_icmp_ge (tgt := 74) cx.1 cx.2.1 dX12_feed_66 (by decide) (fun c66_311 => ?_) (fun c66_311 => ?_)
  rotate_left
  · exact absurd (by decide) c66_311
  refine lv_iload cx.1 cx.2.1 dX12_feed_74 (lv_at hl 7 rfl) ?_
  refine lv_istore (lv' := [(7, .int x4), (6, .int 18), (0, .ref h), (1, .int x0), (2, .int x1), (3, .int x2), (4, .int x3), (5, .int x4)]) cx.1 cx.2.1 dX12_feed_76 hl (by decide) rfl (fun ls hl => ?_)
  refine lv_aload_n cx.1 cx.2.1 dX12_feed_78 rfl (lv_at hl 2 rfl) ?_
  have v312 : F305[1]? = some (.ref (r 1)) := by rw [eF305]; exact (fl_ne (by decide)).trans v294
  refine hp_get (C := RX12) (T := TX12) (N := 137) (ci := 12) cx hw i_f_Mfeed_X12 rfl f306 1 (by decide) m_f_Mfeed_f9 (v := .ref (r 1)) v312 dX12_feed_79 ?_
  refine lv_aload_n cx.1 cx.2.1 dX12_feed_82 rfl (lv_at hl 2 rfl) ?_
  refine hp_get (C := RX12) (T := TX12) (N := 137) (ci := 12) cx hw i_f_Mfeed_X12 rfl f306 2 (by decide) m_f_Mfeed_f271 (v := .int 18) vF305 dX12_feed_83 ?_
  refine lv_iload cx.1 cx.2.1 dX12_feed_86 (lv_at hl 0 rfl) ?_
  refine lv_bipush (v := 24) cx.1 cx.2.1 dX12_feed_88 (by decide) ?_
  refine lv_bipush (v := 8) cx.1 cx.2.1 dX12_feed_90 (by decide) ?_
  refine lv_iload cx.1 cx.2.1 dX12_feed_92 (lv_at hl 1 rfl) ?_
  refine lv_iconst (v := 4) cx.1 cx.2.1 dX12_feed_94 (by decide) ?_
  refine lv_irem cx.1 cx.2.1 dX12_feed_95 (by decide) ?_
  refine lv_topi (fun z313 ez313 => ?_)
  obtain rfl : z313 = 2 := ez313.trans (by decide)
  refine lv_imul cx.1 cx.2.1 dX12_feed_96 ?_
  refine lv_topi (fun z314 ez314 => ?_)
  obtain rfl : z314 = 16 := ez314.trans (by decide)
  refine lv_isub cx.1 cx.2.1 dX12_feed_97 ?_
  refine lv_topi (fun z315 ez315 => ?_)
  obtain rfl : z315 = 8 := ez315.trans (by decide)
  refine lv_ishr cx.1 cx.2.1 dX12_feed_98 ?_
  refine lv_sipush (v := 255) cx.1 cx.2.1 dX12_feed_99 (by decide) ?_
  refine lv_iand cx.1 cx.2.1 dX12_feed_102 ?_
  have f316 : g304 (r 1) = some (.inl (cA 1, 3000, .inl fa301)) := (by rw [eg304]; exact (hp_up_ne _ _ (hp_neAO f300 f302)).trans f300)
  refine hp_iast cx hw 1 f316 rfl (by unfold vp_in; decide) dX12_feed_103 (fun g317 H locs eg317 hw => ?_)
  have f318 : g317 (r 1) = some (.inl (cA 1, 3000, .inl (upd fa301 (18 : Int32).toNatClampNeg ((x4 >>> (8 &&& 31)) &&& 255)))) := (by rw [eg317]; exact hp_up_self _ _ _)
  generalize (upd fa301 (18 : Int32).toNatClampNeg ((x4 >>> (8 &&& 31)) &&& 255)) = fa319 at f318
  refine lv_aload_n cx.1 cx.2.1 dX12_feed_104 rfl (lv_at hl 2 rfl) ?_
  refine lv_dup cx.1 cx.2.1 dX12_feed_105 rfl ?_
  have f320 : g317 h = some (.inr (12, F305)) := (by rw [eg317]; exact (hp_up_ne _ _ (hp_neOA f306 f316)).trans f306)
  refine hp_get (C := RX12) (T := TX12) (N := 137) (ci := 12) cx hw i_f_Mfeed_X12 rfl f320 2 (by decide) m_f_Mfeed_f271 (v := .int 18) vF305 dX12_feed_106 ?_
  refine lv_iconst (v := 1) cx.1 cx.2.1 dX12_feed_109 (by decide) ?_
  refine lv_iadd cx.1 cx.2.1 dX12_feed_110 ?_
  refine lv_topi (fun z321 ez321 => ?_)
  obtain rfl : z321 = 19 := ez321.trans (by decide)
  obtain ⟨F323, eF323⟩ : ∃ F1, F1 = F305.set 2 (.int 19) := ⟨_, rfl⟩
  have lF323 : F323.length = 137 := by rw [eF323, List.length_set]; exact lF305
  have vF323 : F323[2]? = some (.int 19) := by rw [eF323]; exact fl_self (by rw [lF305]; decide)
  refine hp_put (C := RX12) (T := TX12) (N := 137) (ci := 12) (fs' := F323) cx hw i_f_Mfeed_X12 tyX12_ok nmX12 rfl f320 2 (by decide) m_f_Mfeed_f271 rfl  rfl rfl (by rw [lF305]; decide) eF323.symm dX12_feed_111 (fun g322 H locs eg322 hw => ?_)
  have f324 : g322 h = some (.inr (12, F323)) := (by rw [eg322]; exact hp_up_self _ _ _)
  refine lv_iinc (v := 19) (lv' := [(6, .int 19), (7, .int x4), (0, .ref h), (1, .int x0), (2, .int x1), (3, .int x2), (4, .int x3), (5, .int x4)]) cx.1 cx.2.1 dX12_feed_114 hl (k := 1) rfl (by decide) (by decide) rfl (fun ls hl => ?_)
  refine lv_goto (tgt := 23) cx.1 cx.2.1 dX12_feed_117 (by decide) ?_
  refine lv_iload cx.1 cx.2.1 dX12_feed_23 (lv_at hl 0 rfl) ?_
  refine lv_bipush (v := 20) cx.1 cx.2.1 dX12_feed_25 (by decide) ?_
  refine lv_icmp_ge (tgt := 120) cx.1 cx.2.1 dX12_feed_27 (by decide) (fun c27_325 => ?_) (fun c27_325 => ?_)
  · exact absurd c27_325 (by decide)
  refine lv_iload cx.1 cx.2.1 dX12_feed_30 (lv_at hl 0 rfl) ?_
  refine lv_iconst (v := 4) cx.1 cx.2.1 dX12_feed_32 (by decide) ?_
  refine lv_icmp_ge (tgt := 40) cx.1 cx.2.1 dX12_feed_33 (by decide) (fun c33_326 => ?_) (fun c33_326 => ?_)
  rotate_left
  · exact absurd (by decide) c33_326
  refine lv_iload cx.1 cx.2.1 dX12_feed_40 (lv_at hl 0 rfl) ?_
  refine lv_bipush (v := 8) cx.1 cx.2.1 dX12_feed_42 (by decide) ?_
  refine lv_icmp_ge (tgt := 51) cx.1 cx.2.1 dX12_feed_44 (by decide) (fun c44_327 => ?_) (fun c44_327 => ?_)
  rotate_left
  · exact absurd (by decide) c44_327
  refine lv_iload cx.1 cx.2.1 dX12_feed_51 (lv_at hl 0 rfl) ?_
  refine lv_bipush (v := 12) cx.1 cx.2.1 dX12_feed_53 (by decide) ?_
  refine lv_icmp_ge (tgt := 62) cx.1 cx.2.1 dX12_feed_55 (by decide) (fun c55_328 => ?_) (fun c55_328 => ?_)
  rotate_left
  · exact absurd (by decide) c55_328
  refine lv_iload cx.1 cx.2.1 dX12_feed_62 (lv_at hl 0 rfl) ?_
  refine lv_bipush (v := 16) cx.1 cx.2.1 dX12_feed_64 (by decide) ?_
  refine lv_icmp_ge (tgt := 74) cx.1 cx.2.1 dX12_feed_66 (by decide) (fun c66_329 => ?_) (fun c66_329 => ?_)
  rotate_left
  · exact absurd (by decide) c66_329
  refine lv_iload cx.1 cx.2.1 dX12_feed_74 (lv_at hl 7 rfl) ?_
  refine lv_istore (lv' := [(7, .int x4), (6, .int 19), (0, .ref h), (1, .int x0), (2, .int x1), (3, .int x2), (4, .int x3), (5, .int x4)]) cx.1 cx.2.1 dX12_feed_76 hl (by decide) rfl (fun ls hl => ?_)
  refine lv_aload_n cx.1 cx.2.1 dX12_feed_78 rfl (lv_at hl 2 rfl) ?_
  have v330 : F323[1]? = some (.ref (r 1)) := by rw [eF323]; exact (fl_ne (by decide)).trans v312
  refine hp_get (C := RX12) (T := TX12) (N := 137) (ci := 12) cx hw i_f_Mfeed_X12 rfl f324 1 (by decide) m_f_Mfeed_f9 (v := .ref (r 1)) v330 dX12_feed_79 ?_
  refine lv_aload_n cx.1 cx.2.1 dX12_feed_82 rfl (lv_at hl 2 rfl) ?_
  refine hp_get (C := RX12) (T := TX12) (N := 137) (ci := 12) cx hw i_f_Mfeed_X12 rfl f324 2 (by decide) m_f_Mfeed_f271 (v := .int 19) vF323 dX12_feed_83 ?_
  refine lv_iload cx.1 cx.2.1 dX12_feed_86 (lv_at hl 0 rfl) ?_
  refine lv_bipush (v := 24) cx.1 cx.2.1 dX12_feed_88 (by decide) ?_
  refine lv_bipush (v := 8) cx.1 cx.2.1 dX12_feed_90 (by decide) ?_
  refine lv_iload cx.1 cx.2.1 dX12_feed_92 (lv_at hl 1 rfl) ?_
  refine lv_iconst (v := 4) cx.1 cx.2.1 dX12_feed_94 (by decide) ?_
  refine lv_irem cx.1 cx.2.1 dX12_feed_95 (by decide) ?_
  refine lv_topi (fun z331 ez331 => ?_)
  obtain rfl : z331 = 3 := ez331.trans (by decide)
  refine lv_imul cx.1 cx.2.1 dX12_feed_96 ?_
  refine lv_topi (fun z332 ez332 => ?_)
  obtain rfl : z332 = 24 := ez332.trans (by decide)
  refine lv_isub cx.1 cx.2.1 dX12_feed_97 ?_
  refine lv_topi (fun z333 ez333 => ?_)
  obtain rfl : z333 = 0 := ez333.trans (by decide)
  refine lv_ishr cx.1 cx.2.1 dX12_feed_98 ?_
  refine lv_sipush (v := 255) cx.1 cx.2.1 dX12_feed_99 (by decide) ?_
  refine lv_iand cx.1 cx.2.1 dX12_feed_102 ?_
  have f334 : g322 (r 1) = some (.inl (cA 1, 3000, .inl fa319)) := (by rw [eg322]; exact (hp_up_ne _ _ (hp_neAO f318 f320)).trans f318)
  refine hp_iast cx hw 1 f334 rfl (by unfold vp_in; decide) dX12_feed_103 (fun g335 H locs eg335 hw => ?_)
  have f336 : g335 (r 1) = some (.inl (cA 1, 3000, .inl (upd fa319 (19 : Int32).toNatClampNeg ((x4 >>> (0 &&& 31)) &&& 255)))) := (by rw [eg335]; exact hp_up_self _ _ _)
  generalize (upd fa319 (19 : Int32).toNatClampNeg ((x4 >>> (0 &&& 31)) &&& 255)) = fa337 at f336
  refine lv_aload_n cx.1 cx.2.1 dX12_feed_104 rfl (lv_at hl 2 rfl) ?_
  refine lv_dup cx.1 cx.2.1 dX12_feed_105 rfl ?_
  have f338 : g335 h = some (.inr (12, F323)) := (by rw [eg335]; exact (hp_up_ne _ _ (hp_neOA f324 f334)).trans f324)
  refine hp_get (C := RX12) (T := TX12) (N := 137) (ci := 12) cx hw i_f_Mfeed_X12 rfl f338 2 (by decide) m_f_Mfeed_f271 (v := .int 19) vF323 dX12_feed_106 ?_
  refine lv_iconst (v := 1) cx.1 cx.2.1 dX12_feed_109 (by decide) ?_
  refine lv_iadd cx.1 cx.2.1 dX12_feed_110 ?_
  refine lv_topi (fun z339 ez339 => ?_)
  obtain rfl : z339 = 20 := ez339.trans (by decide)
  obtain ⟨F341, eF341⟩ : ∃ F1, F1 = F323.set 2 (.int 20) := ⟨_, rfl⟩
  have lF341 : F341.length = 137 := by rw [eF341, List.length_set]; exact lF323
  have vF341 : F341[2]? = some (.int 20) := by rw [eF341]; exact fl_self (by rw [lF323]; decide)
  refine hp_put (C := RX12) (T := TX12) (N := 137) (ci := 12) (fs' := F341) cx hw i_f_Mfeed_X12 tyX12_ok nmX12 rfl f338 2 (by decide) m_f_Mfeed_f271 rfl  rfl rfl (by rw [lF323]; decide) eF341.symm dX12_feed_111 (fun g340 H locs eg340 hw => ?_)
  have f342 : g340 h = some (.inr (12, F341)) := (by rw [eg340]; exact hp_up_self _ _ _)
  refine lv_iinc (v := 20) (lv' := [(6, .int 20), (7, .int x4), (0, .ref h), (1, .int x0), (2, .int x1), (3, .int x2), (4, .int x3), (5, .int x4)]) cx.1 cx.2.1 dX12_feed_114 hl (k := 1) rfl (by decide) (by decide) rfl (fun ls hl => ?_)
  refine lv_goto (tgt := 23) cx.1 cx.2.1 dX12_feed_117 (by decide) ?_
  refine lv_iload cx.1 cx.2.1 dX12_feed_23 (lv_at hl 0 rfl) ?_
  refine lv_bipush (v := 20) cx.1 cx.2.1 dX12_feed_25 (by decide) ?_
  refine lv_icmp_ge (tgt := 120) cx.1 cx.2.1 dX12_feed_27 (by decide) (fun c27_343 => ?_) (fun c27_343 => ?_)
  rotate_left
  · exact absurd (by decide) c27_343
  refine lv_iconst (v := 1) cx.1 cx.2.1 dX12_feed_120 (by decide) ?_
  exact hp_zret cx hw (rfl) (by decide) dX12_feed_121
