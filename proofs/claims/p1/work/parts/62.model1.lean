def lk_k_in : List Cond := []
def v_k_in : List Cond := .code yX12_in cX12_in 6 (some .boolean) :: (lk_k_in ++ [])
theorem gk_k_in : lk_k_in.all goodWord = true := by decide +kernel
theorem gd_v_k_in : ∀ w ∈ v_k_in, gdW w := fun w h => (List.mem_cons.mp h).elim (fun e => by rw [e]; exact good_of_word rfl) (fun h => (List.mem_append.mp h).elim (fun h => good_of_word (List.all_eq_true.mp gk_k_in w h)) (fun h => nomatch h))
set_option maxHeartbeats 4000000 in
set_option maxRecDepth 100000 in
/-- in(x, lo, hi) -/
theorem k_in (l : Launch) (D : va_G) (cA : Nat → ClassId) (E : hp_N) (sz : Nat) (g : hp_M) (x lo hi : Int64) : Met l yX12_in v_k_in ({ frames := 0, cells := 0, slots := 0, locals := 0 }) (hp_Pc D vwCl (hp_Tl cA) E sz g [.long x, .long lo, .long hi]) (hp_Qi D vwCl (hp_Tl cA) sz g (fun r u => u = g ∧ r = if ¬ x < lo ∧ ¬ hi < x then 1 else 0)) 0 0 (hp_A g sz) := by
  refine hp_ofW (cc := cX12_in) (maxL := 6) (ret := (some .boolean)) (by decide) rfl (Nat.le_of_ble_eq_true rfl) ?_
  intro pp ee ss mm bb mt cd ls cx hsz hw hl
  have hl : lv_has ls 6 [(0, .long x), (2, .long lo), (4, .long hi)] := hl
  refine lv_lload_n cx.1 cx.2.1 dX12_in_0 rfl (lv_at hl 0 rfl) ?_
  refine lv_lload_n cx.1 cx.2.1 dX12_in_1 rfl (lv_at hl 1 rfl) ?_
  refine W.lcmp cx.1 cx.2.1 dX12_in_2 ?_
  refine lv_if_lt (tgt := 17) cx.1 cx.2.1 dX12_in_3 (by decide) (fun c3_1 => ?_) (fun c3_1 => ?_)
  · skip
    refine lv_iconst (v := 0) cx.1 cx.2.1 dX12_in_17 (by decide) ?_
    exact hp_zret cx hw (⟨rfl, by rw [if_neg (fun q => q.1 ((lg_cmp_lt _ _).mp c3_1))]⟩) (by decide) dX12_in_18
  · skip
    refine lv_lload_n cx.1 cx.2.1 dX12_in_6 rfl (lv_at hl 0 rfl) ?_
    refine lv_lload cx.1 cx.2.1 dX12_in_7 (lv_at hl 2 rfl) ?_
    refine W.lcmp cx.1 cx.2.1 dX12_in_9 ?_
    refine lv_if_gt (tgt := 17) cx.1 cx.2.1 dX12_in_10 (by decide) (fun c10_2 => ?_) (fun c10_2 => ?_)
    · skip
      refine lv_iconst (v := 0) cx.1 cx.2.1 dX12_in_17 (by decide) ?_
      exact hp_zret cx hw (⟨rfl, by rw [if_neg (fun q => q.2 ((lg_cmp_gt _ _).mp c10_2))]⟩) (by decide) dX12_in_18
    · skip
      refine lv_iconst (v := 1) cx.1 cx.2.1 dX12_in_13 (by decide) ?_
      refine lv_goto (tgt := 18) cx.1 cx.2.1 dX12_in_14 (by decide) ?_
      exact hp_zret cx hw (⟨rfl, by rw [if_pos ⟨fun q => c3_1 ((lg_cmp_lt _ _).mpr q), fun q => c10_2 ((lg_cmp_gt _ _).mpr q)⟩]⟩) (by decide) dX12_in_18

def lk_k_isFine1 : List Cond := [Cond.fieldLink RX12 289 "WardenHouseModel" "fault" "I"]
def v_k_isFine1 : List Cond := .code yX12_isFine cX12_isFine 1 (some .boolean) :: (lk_k_isFine1 ++ (wsX120 ++ []))
theorem m_k_isFine1_f289 : Cond.fieldLink RX12 289 "WardenHouseModel" "fault" "I" ∈ v_k_isFine1 := List.mem_cons_of_mem _ (List.mem_append_left _ (List.mem_of_getElem? (i := 0) rfl))
theorem i_k_isFine1_X12 : ∀ w ∈ wsX120, w ∈ v_k_isFine1 := fun _ h => List.mem_cons_of_mem _ (List.mem_append_right _ (List.mem_append_left _ h))
theorem gk_k_isFine1 : lk_k_isFine1.all goodWord = true := by decide +kernel
theorem gd_v_k_isFine1 : ∀ w ∈ v_k_isFine1, gdW w := fun w h => (List.mem_cons.mp h).elim (fun e => by rw [e]; exact good_of_word rfl) (fun h => (List.mem_append.mp h).elim (fun h => good_of_word (List.all_eq_true.mp gk_k_isFine1 w h)) (fun h => (List.mem_append.mp h).elim (gd_wsX120 w) (fun h => nomatch h)))
set_option maxHeartbeats 4000000 in
set_option maxRecDepth 100000 in
theorem k_isFine1 (l : Launch) (D : va_G) (cA : Nat → ClassId) (E : hp_N) (sz : Nat) (g : hp_M)  (h : Nat) (fs : List Value) (hL : fs.length = 137) (hh : g h = some (.inr (12, fs))) (h6 : fs[6]? = some (.int 0))  : Met l yX12_isFine v_k_isFine1 ({ frames := 0, cells := 0, slots := 0, locals := 0 }) (hp_Pc D vwCl (hp_Tl cA) E sz g [.ref h]) (hp_Qi D vwCl (hp_Tl cA) sz g (fun r u => u = g ∧ r = 1)) 0 0 (hp_A g sz) := by
  refine hp_ofW (cc := cX12_isFine) (maxL := 1) (ret := (some .boolean)) (by decide) rfl (Nat.le_of_ble_eq_true rfl) ?_
  intro pp ee ss mm bb mt cd ls cx hsz hw hl
  have hl : lv_has ls 1 [(0, .ref h)] := hl
  refine lv_aload_n cx.1 cx.2.1 dX12_isFine_0 rfl (lv_at hl 0 rfl) ?_
  refine hp_get (C := RX12) (T := TX12) (N := 137) (ci := 12) cx hw i_k_isFine1_X12 rfl hh 6 (by decide) m_k_isFine1_f289 (v := .int 0) h6 dX12_isFine_1 ?_
  refine lv_if_ne (tgt := 11) cx.1 cx.2.1 dX12_isFine_4 (by decide) (fun c4_1 => ?_) (fun c4_1 => ?_)
  · exact absurd c4_1 (by decide)
  refine lv_iconst (v := 1) cx.1 cx.2.1 dX12_isFine_7 (by decide) ?_
  refine lv_goto (tgt := 12) cx.1 cx.2.1 dX12_isFine_8 (by decide) ?_
  exact hp_zret cx hw (⟨rfl, rfl⟩) (by decide) dX12_isFine_12

def lk_k_isFine0 : List Cond := [Cond.fieldLink RX12 289 "WardenHouseModel" "fault" "I"]
def v_k_isFine0 : List Cond := .code yX12_isFine cX12_isFine 1 (some .boolean) :: (lk_k_isFine0 ++ (wsX120 ++ []))
theorem m_k_isFine0_f289 : Cond.fieldLink RX12 289 "WardenHouseModel" "fault" "I" ∈ v_k_isFine0 := List.mem_cons_of_mem _ (List.mem_append_left _ (List.mem_of_getElem? (i := 0) rfl))
theorem i_k_isFine0_X12 : ∀ w ∈ wsX120, w ∈ v_k_isFine0 := fun _ h => List.mem_cons_of_mem _ (List.mem_append_right _ (List.mem_append_left _ h))
theorem gk_k_isFine0 : lk_k_isFine0.all goodWord = true := by decide +kernel
theorem gd_v_k_isFine0 : ∀ w ∈ v_k_isFine0, gdW w := fun w h => (List.mem_cons.mp h).elim (fun e => by rw [e]; exact good_of_word rfl) (fun h => (List.mem_append.mp h).elim (fun h => good_of_word (List.all_eq_true.mp gk_k_isFine0 w h)) (fun h => (List.mem_append.mp h).elim (gd_wsX120 w) (fun h => nomatch h)))
set_option maxHeartbeats 4000000 in
set_option maxRecDepth 100000 in
theorem k_isFine0 (l : Launch) (D : va_G) (cA : Nat → ClassId) (E : hp_N) (sz : Nat) (g : hp_M) (x : Int32) (h : Nat) (fs : List Value) (hL : fs.length = 137) (hh : g h = some (.inr (12, fs))) (h6 : fs[6]? = some (.int x)) (hx : ¬ x = 0) : Met l yX12_isFine v_k_isFine0 ({ frames := 0, cells := 0, slots := 0, locals := 0 }) (hp_Pc D vwCl (hp_Tl cA) E sz g [.ref h]) (hp_Qi D vwCl (hp_Tl cA) sz g (fun r u => u = g ∧ r = 0)) 0 0 (hp_A g sz) := by
  refine hp_ofW (cc := cX12_isFine) (maxL := 1) (ret := (some .boolean)) (by decide) rfl (Nat.le_of_ble_eq_true rfl) ?_
  intro pp ee ss mm bb mt cd ls cx hsz hw hl
  have hl : lv_has ls 1 [(0, .ref h)] := hl
  refine lv_aload_n cx.1 cx.2.1 dX12_isFine_0 rfl (lv_at hl 0 rfl) ?_
  refine hp_get (C := RX12) (T := TX12) (N := 137) (ci := 12) cx hw i_k_isFine0_X12 rfl hh 6 (by decide) m_k_isFine0_f289 (v := .int x) h6 dX12_isFine_1 ?_
  refine lv_if_ne (tgt := 11) cx.1 cx.2.1 dX12_isFine_4 (by decide) (fun c4_1 => ?_) (fun c4_1 => ?_)
  rotate_left
  · exact absurd c4_1 (hx)
  refine lv_iconst (v := 0) cx.1 cx.2.1 dX12_isFine_11 (by decide) ?_
  exact hp_zret cx hw (⟨rfl, rfl⟩) (by decide) dX12_isFine_12

def lk_k_at_out : List Cond := [Cond.fieldLink RX12 278 "WardenHouseModel" "size" "I"]
def v_k_at_out : List Cond := .code yX12_at cX12_at 2 (some .int) :: (lk_k_at_out ++ (wsX120 ++ []))
theorem m_k_at_out_f278 : Cond.fieldLink RX12 278 "WardenHouseModel" "size" "I" ∈ v_k_at_out := List.mem_cons_of_mem _ (List.mem_append_left _ (List.mem_of_getElem? (i := 0) rfl))
theorem i_k_at_out_X12 : ∀ w ∈ wsX120, w ∈ v_k_at_out := fun _ h => List.mem_cons_of_mem _ (List.mem_append_right _ (List.mem_append_left _ h))
theorem gk_k_at_out : lk_k_at_out.all goodWord = true := by decide +kernel
theorem gd_v_k_at_out : ∀ w ∈ v_k_at_out, gdW w := fun w h => (List.mem_cons.mp h).elim (fun e => by rw [e]; exact good_of_word rfl) (fun h => (List.mem_append.mp h).elim (fun h => good_of_word (List.all_eq_true.mp gk_k_at_out w h)) (fun h => (List.mem_append.mp h).elim (gd_wsX120 w) (fun h => nomatch h)))
set_option maxHeartbeats 4000000 in
set_option maxRecDepth 100000 in
theorem k_at_out (l : Launch) (D : va_G) (cA : Nat → ClassId) (E : hp_N) (sz : Nat) (g : hp_M) (z x : Int32) (h : Nat) (fs : List Value) (hL : fs.length = 137) (hh : g h = some (.inr (12, fs))) (h4 : fs[4]? = some (.int z)) (hz : z ≤ x) : Met l yX12_at v_k_at_out ({ frames := 0, cells := 0, slots := 0, locals := 0 }) (hp_Pc D vwCl (hp_Tl cA) E sz g [.ref h, .int x]) (hp_Qi D vwCl (hp_Tl cA) sz g (fun r u => u = g ∧ r = -1)) 0 0 (hp_A g sz) := by
  refine hp_ofW (cc := cX12_at) (maxL := 2) (ret := (some .int)) (by decide) rfl (Nat.le_of_ble_eq_true rfl) ?_
  intro pp ee ss mm bb mt cd ls cx hsz hw hl
  have hl : lv_has ls 2 [(0, .ref h), (1, .int x)] := hl
  refine lv_iload_n cx.1 cx.2.1 dX12_at_0 rfl (lv_at hl 1 rfl) ?_
  refine lv_aload_n cx.1 cx.2.1 dX12_at_1 rfl (lv_at hl 0 rfl) ?_
  refine hp_get (C := RX12) (T := TX12) (N := 137) (ci := 12) cx hw i_k_at_out_X12 rfl hh 4 (by decide) m_k_at_out_f278 (v := .int z) h4 dX12_at_2 ?_
  refine lv_icmp_ge (tgt := 17) cx.1 cx.2.1 dX12_at_5 (by decide) (fun c5_1 => ?_) (fun c5_1 => ?_)
  rotate_left
  · exact absurd (hz) c5_1
  refine lv_iconst (v := (-1)) cx.1 cx.2.1 dX12_at_17 (by decide) ?_
  exact hp_iret cx hw (⟨rfl, rfl⟩) dX12_at_18

def lk_k_isKey_no : List Cond := [Cond.methodLink RX12 332 yX12_isFine, Cond.instanceMethod yX12_isFine, Cond.selects RX12 yX12_isFine yX12_isFine, Cond.initialized RX12, Cond.fieldLink RX12 292 "WardenHouseModel" "word" "I"]
def v_k_isKey_no : List Cond := .code yX12_isKey cX12_isKey 2 (some .boolean) :: (lk_k_isKey_no ++ (v_k_isFine1 ++ (wsX120 ++ [])))
theorem m_k_isKey_no_l332 : Cond.methodLink RX12 332 yX12_isFine ∈ v_k_isKey_no := List.mem_cons_of_mem _ (List.mem_append_left _ (List.mem_of_getElem? (i := 0) rfl))
theorem m_k_isKey_no_j332 : Cond.instanceMethod yX12_isFine ∈ v_k_isKey_no := List.mem_cons_of_mem _ (List.mem_append_left _ (List.mem_of_getElem? (i := 1) rfl))
theorem m_k_isKey_no_s332 : Cond.selects RX12 yX12_isFine yX12_isFine ∈ v_k_isKey_no := List.mem_cons_of_mem _ (List.mem_append_left _ (List.mem_of_getElem? (i := 2) rfl))
theorem m_k_isKey_no_z12 : Cond.initialized RX12 ∈ v_k_isKey_no := List.mem_cons_of_mem _ (List.mem_append_left _ (List.mem_of_getElem? (i := 3) rfl))
theorem m_k_isKey_no_f292 : Cond.fieldLink RX12 292 "WardenHouseModel" "word" "I" ∈ v_k_isKey_no := List.mem_cons_of_mem _ (List.mem_append_left _ (List.mem_of_getElem? (i := 4) rfl))
theorem j_k_isKey_no_v_k_isFine1 : ∀ w ∈ v_k_isFine1, w ∈ v_k_isKey_no := fun _ h => List.mem_cons_of_mem _ (List.mem_append_right _ (List.mem_append_left _ h))
theorem i_k_isKey_no_X12 : ∀ w ∈ wsX120, w ∈ v_k_isKey_no := fun _ h => List.mem_cons_of_mem _ (List.mem_append_right _ (List.mem_append_right _ (List.mem_append_left _ h)))
theorem gk_k_isKey_no : lk_k_isKey_no.all goodWord = true := by decide +kernel
theorem gd_v_k_isKey_no : ∀ w ∈ v_k_isKey_no, gdW w := fun w h => (List.mem_cons.mp h).elim (fun e => by rw [e]; exact good_of_word rfl) (fun h => (List.mem_append.mp h).elim (fun h => good_of_word (List.all_eq_true.mp gk_k_isKey_no w h)) (fun h => (List.mem_append.mp h).elim (gd_v_k_isFine1 w) (fun h => (List.mem_append.mp h).elim (gd_wsX120 w) (fun h => nomatch h))))
theorem g_k_isKey_no_332_v_k_isFine1 : GoodIn v_k_isKey_no (wsV RX12 332 RX12 yX12_isFine v_k_isFine1) := goodIn_app (fun w h => (fun h => (List.mem_cons.mp h).elim (fun e => by rw [e]; exact ⟨m_k_isKey_no_l332, good_of_word rfl⟩) (fun h => (List.mem_cons.mp h).elim (fun e => by rw [e]; exact ⟨m_k_isKey_no_j332, good_of_word rfl⟩) (fun h => (List.mem_cons.mp h).elim (fun e => by rw [e]; exact ⟨m_k_isKey_no_s332, good_of_word rfl⟩) (fun h => (List.mem_cons.mp h).elim (fun e => by rw [e]; exact ⟨m_k_isKey_no_z12, good_of_word rfl⟩) (fun h => nomatch h))))) h) (fun w h => ⟨j_k_isKey_no_v_k_isFine1 w h, gd_v_k_isFine1 w h⟩)
set_option maxHeartbeats 4000000 in
set_option maxRecDepth 100000 in
theorem k_isKey_no (l : Launch) (D : va_G) (cA : Nat → ClassId) (E : hp_N) (sz : Nat) (g : hp_M) (x wd : Int32) (h : Nat) (fs : List Value) (hL : fs.length = 137) (hh : g h = some (.inr (12, fs))) (h6 : fs[6]? = some (.int 0)) (h8 : fs[8]? = some (.int wd)) (hx : ¬ wd = 2) : Met l yX12_isKey v_k_isKey_no ({ frames := 1, cells := 0, slots := 0, locals := 21 }) (hp_Pc D vwCl (hp_Tl cA) E sz g [.ref h, .int x]) (hp_Qi D vwCl (hp_Tl cA) sz g (fun r u => u = g ∧ r = 0)) 0 0 (hp_A g sz) := by
  refine hp_ofW (cc := cX12_isKey) (maxL := 2) (ret := (some .boolean)) (by decide) rfl (Nat.le_of_ble_eq_true rfl) ?_
  intro pp ee ss mm bb mt cd ls cx hsz hw hl
  have hl : lv_has ls 2 [(0, .ref h), (1, .int x)] := hl
  refine lv_aload_n cx.1 cx.2.1 dX12_isKey_0 rfl (lv_at hl 0 rfl) ?_
  refine hp_callVi (As := []) (rest := []) cx hw (k_isFine1 l D cA E _ g h fs hL hh h6) (cwV 0 cx.2.2.2.2.2.1 g_k_isKey_no_332_v_k_isFine1 rfl rfl rfl (by decide +kernel) ⟨Nat.le_of_ble_eq_true rfl, Nat.le_of_ble_eq_true rfl⟩) hh rfl rfl hl.1 rfl (Nat.le_of_ble_eq_true rfl) dX12_isKey_1 ⟨Nat.le_of_ble_eq_true rfl, Nat.le_of_ble_eq_true rfl⟩ (fun r2 u1 H locs hp3 hw => ?_)
  obtain ⟨euu1, err2⟩ := hp3
  rw [euu1] at hw
  subst err2
  refine lv_if_eq (tgt := 27) cx.1 cx.2.1 dX12_isKey_4 (by decide) (fun c4_4 => ?_) (fun c4_4 => ?_)
  · exact absurd c4_4 (by decide)
  refine lv_aload_n cx.1 cx.2.1 dX12_isKey_7 rfl (lv_at hl 0 rfl) ?_
  refine hp_get (C := RX12) (T := TX12) (N := 137) (ci := 12) cx hw i_k_isKey_no_X12 rfl hh 8 (by decide) m_k_isKey_no_f292 (v := .int wd) h8 dX12_isKey_8 ?_
  refine lv_iconst (v := 2) cx.1 cx.2.1 dX12_isKey_11 (by decide) ?_
  refine lv_icmp_ne (tgt := 27) cx.1 cx.2.1 dX12_isKey_12 (by decide) (fun c12_5 => ?_) (fun c12_5 => ?_)
  rotate_left
  · exact absurd c12_5 (hx)
  refine lv_iconst (v := 0) cx.1 cx.2.1 dX12_isKey_27 (by decide) ?_
  exact hp_zret cx hw (⟨rfl, rfl⟩) (by decide) dX12_isKey_28

def lk_k_failsAt : List Cond := [Cond.fieldLink RX12 289 "WardenHouseModel" "fault" "I", Cond.fieldLink RX12 16 "WardenHouseModel" "faultPlace" "I", Cond.fieldLink RX12 292 "WardenHouseModel" "word" "I"]
def v_k_failsAt : List Cond := .code yX12_failsAt cX12_failsAt 3 none :: (lk_k_failsAt ++ (wsX120 ++ []))
theorem m_k_failsAt_f289 : Cond.fieldLink RX12 289 "WardenHouseModel" "fault" "I" ∈ v_k_failsAt := List.mem_cons_of_mem _ (List.mem_append_left _ (List.mem_of_getElem? (i := 0) rfl))
theorem m_k_failsAt_f16 : Cond.fieldLink RX12 16 "WardenHouseModel" "faultPlace" "I" ∈ v_k_failsAt := List.mem_cons_of_mem _ (List.mem_append_left _ (List.mem_of_getElem? (i := 1) rfl))
theorem m_k_failsAt_f292 : Cond.fieldLink RX12 292 "WardenHouseModel" "word" "I" ∈ v_k_failsAt := List.mem_cons_of_mem _ (List.mem_append_left _ (List.mem_of_getElem? (i := 2) rfl))
theorem i_k_failsAt_X12 : ∀ w ∈ wsX120, w ∈ v_k_failsAt := fun _ h => List.mem_cons_of_mem _ (List.mem_append_right _ (List.mem_append_left _ h))
theorem gk_k_failsAt : lk_k_failsAt.all goodWord = true := by decide +kernel
theorem gd_v_k_failsAt : ∀ w ∈ v_k_failsAt, gdW w := fun w h => (List.mem_cons.mp h).elim (fun e => by rw [e]; exact good_of_word rfl) (fun h => (List.mem_append.mp h).elim (fun h => good_of_word (List.all_eq_true.mp gk_k_failsAt w h)) (fun h => (List.mem_append.mp h).elim (gd_wsX120 w) (fun h => nomatch h)))
set_option maxHeartbeats 4000000 in
set_option maxRecDepth 100000 in
theorem k_failsAt (l : Launch) (D : va_G) (cA : Nat → ClassId) (E : hp_N) (sz : Nat) (g : hp_M) (x y : Int32) (h : Nat) (fs : List Value) (hL : fs.length = 137) (hh : g h = some (.inr (12, fs))) (h6 : fs[6]? = some (.int 0))  : Met l yX12_failsAt v_k_failsAt ({ frames := 0, cells := 0, slots := 0, locals := 0 }) (hp_Pc D vwCl (hp_Tl cA) E sz g [.ref h, .int x, .int y]) (hp_Qv D vwCl (hp_Tl cA) sz g (fun u => ∃ fs1 : List Value, u = hp_up g h (.inr (12, fs1)) ∧ fs1.length = 137 ∧ fs1[6]? = some (.int x) ∧ fs1[7]? = some (.int y) ∧ fs1[8]? = some (.int 0) ∧ ∀ k, (k ≠ 6 ∧ k ≠ 7 ∧ k ≠ 8) → fs1[k]? = fs[k]?)) 0 0 (hp_A g sz) := by
  refine hp_ofW (cc := cX12_failsAt) (maxL := 3) (ret := none) (by decide) rfl (Nat.le_of_ble_eq_true rfl) ?_
  intro pp ee ss mm bb mt cd ls cx hsz hw hl
  have hl : lv_has ls 3 [(0, .ref h), (1, .int x), (2, .int y)] := hl
  refine lv_aload_n cx.1 cx.2.1 dX12_failsAt_0 rfl (lv_at hl 0 rfl) ?_
  refine hp_get (C := RX12) (T := TX12) (N := 137) (ci := 12) cx hw i_k_failsAt_X12 rfl hh 6 (by decide) m_k_failsAt_f289 (v := .int 0) h6 dX12_failsAt_1 ?_
  refine lv_if_ne (tgt := 17) cx.1 cx.2.1 dX12_failsAt_4 (by decide) (fun c4_1 => ?_) (fun c4_1 => ?_)
  · exact absurd c4_1 (by decide)
  refine lv_aload_n cx.1 cx.2.1 dX12_failsAt_7 rfl (lv_at hl 0 rfl) ?_
  refine lv_iload_n cx.1 cx.2.1 dX12_failsAt_8 rfl (lv_at hl 1 rfl) ?_
  obtain ⟨F3, eF3⟩ : ∃ F1, F1 = fs.set 6 (.int x) := ⟨_, rfl⟩
  have lF3 : F3.length = 137 := by rw [eF3, List.length_set]; exact hL
  have vF3 : F3[6]? = some (.int x) := by rw [eF3]; exact fl_self (by rw [hL]; decide)
  refine hp_put (C := RX12) (T := TX12) (N := 137) (ci := 12) (fs' := F3) cx hw i_k_failsAt_X12 tyX12_ok nmX12 rfl hh 6 (by decide) m_k_failsAt_f289 rfl  rfl rfl (by rw [hL]; decide) eF3.symm dX12_failsAt_9 (fun g2 H locs eg2 hw => ?_)
  have f4 : g2 h = some (.inr (12, F3)) := (by rw [eg2]; exact hp_up_self _ _ _)
  refine lv_aload_n cx.1 cx.2.1 dX12_failsAt_12 rfl (lv_at hl 0 rfl) ?_
  refine lv_iload_n cx.1 cx.2.1 dX12_failsAt_13 rfl (lv_at hl 2 rfl) ?_
  obtain ⟨F6, eF6⟩ : ∃ F1, F1 = F3.set 7 (.int y) := ⟨_, rfl⟩
  have lF6 : F6.length = 137 := by rw [eF6, List.length_set]; exact lF3
  have vF6 : F6[7]? = some (.int y) := by rw [eF6]; exact fl_self (by rw [lF3]; decide)
  refine hp_put (C := RX12) (T := TX12) (N := 137) (ci := 12) (fs' := F6) cx hw i_k_failsAt_X12 tyX12_ok nmX12 rfl f4 7 (by decide) m_k_failsAt_f16 rfl  rfl rfl (by rw [lF3]; decide) eF6.symm dX12_failsAt_14 (fun g5 H locs eg5 hw => ?_)
  have f7 : g5 h = some (.inr (12, F6)) := (by rw [eg5]; exact hp_up_self _ _ _)
  refine lv_aload_n cx.1 cx.2.1 dX12_failsAt_17 rfl (lv_at hl 0 rfl) ?_
  refine lv_iconst (v := 0) cx.1 cx.2.1 dX12_failsAt_18 (by decide) ?_
  obtain ⟨F9, eF9⟩ : ∃ F1, F1 = F6.set 8 (.int 0) := ⟨_, rfl⟩
  have lF9 : F9.length = 137 := by rw [eF9, List.length_set]; exact lF6
  have vF9 : F9[8]? = some (.int 0) := by rw [eF9]; exact fl_self (by rw [lF6]; decide)
  refine hp_put (C := RX12) (T := TX12) (N := 137) (ci := 12) (fs' := F9) cx hw i_k_failsAt_X12 tyX12_ok nmX12 rfl f7 8 (by decide) m_k_failsAt_f292 rfl  rfl rfl (by rw [lF6]; decide) eF9.symm dX12_failsAt_19 (fun g8 H locs eg8 hw => ?_)
  have f10 : g8 h = some (.inr (12, F9)) := (by rw [eg8]; exact hp_up_self _ _ _)
  have v11 : F6[6]? = some (.int x) := by rw [eF6]; exact (fl_ne (by decide)).trans vF3
  have v12 : F9[6]? = some (.int x) := by rw [eF9]; exact (fl_ne (by decide)).trans v11
  have v13 : F9[7]? = some (.int y) := by rw [eF9]; exact (fl_ne (by decide)).trans vF6
  have hu : g8 = hp_up g h (.inr (12, F9)) := by
    funext b; by_cases hb : b = h
    · subst hb; rw [hp_up_self]; exact f10
    · rw [hp_up_ne _ _ hb]; rw [eg8, hp_up_ne _ _ hb]; rw [eg5, hp_up_ne _ _ hb]; rw [eg2, hp_up_ne _ _ hb]
  have hfk : ∀ k, (k ≠ 6 ∧ k ≠ 7 ∧ k ≠ 8) → F9[k]? = fs[k]? := by
    intro k hk
    rw [eF9, fl_ne (by omega)]; rw [eF6, fl_ne (by omega)]; rw [eF3, fl_ne (by omega)]
  exact hp_vret cx hw (⟨F9, hu, lF9, v12, v13, vF9, hfk⟩) dX12_failsAt_22

def lk_k_misfit_end : List Cond := [Cond.fieldLink RX12 292 "WardenHouseModel" "word" "I", Cond.fieldLink RX12 278 "WardenHouseModel" "size" "I", Cond.methodLink RX12 298 yX12_failsAt, Cond.instanceMethod yX12_failsAt, Cond.selects RX12 yX12_failsAt yX12_failsAt, Cond.initialized RX12]
def v_k_misfit_end : List Cond := .code yX12_misfit cX12_misfit 1 none :: (lk_k_misfit_end ++ (wsX120 ++ (v_k_failsAt ++ [])))
theorem m_k_misfit_end_f292 : Cond.fieldLink RX12 292 "WardenHouseModel" "word" "I" ∈ v_k_misfit_end := List.mem_cons_of_mem _ (List.mem_append_left _ (List.mem_of_getElem? (i := 0) rfl))
theorem m_k_misfit_end_f278 : Cond.fieldLink RX12 278 "WardenHouseModel" "size" "I" ∈ v_k_misfit_end := List.mem_cons_of_mem _ (List.mem_append_left _ (List.mem_of_getElem? (i := 1) rfl))
theorem m_k_misfit_end_l298 : Cond.methodLink RX12 298 yX12_failsAt ∈ v_k_misfit_end := List.mem_cons_of_mem _ (List.mem_append_left _ (List.mem_of_getElem? (i := 2) rfl))
theorem m_k_misfit_end_j298 : Cond.instanceMethod yX12_failsAt ∈ v_k_misfit_end := List.mem_cons_of_mem _ (List.mem_append_left _ (List.mem_of_getElem? (i := 3) rfl))
theorem m_k_misfit_end_s298 : Cond.selects RX12 yX12_failsAt yX12_failsAt ∈ v_k_misfit_end := List.mem_cons_of_mem _ (List.mem_append_left _ (List.mem_of_getElem? (i := 4) rfl))
theorem m_k_misfit_end_z12 : Cond.initialized RX12 ∈ v_k_misfit_end := List.mem_cons_of_mem _ (List.mem_append_left _ (List.mem_of_getElem? (i := 5) rfl))
theorem i_k_misfit_end_X12 : ∀ w ∈ wsX120, w ∈ v_k_misfit_end := fun _ h => List.mem_cons_of_mem _ (List.mem_append_right _ (List.mem_append_left _ h))
theorem j_k_misfit_end_v_k_failsAt : ∀ w ∈ v_k_failsAt, w ∈ v_k_misfit_end := fun _ h => List.mem_cons_of_mem _ (List.mem_append_right _ (List.mem_append_right _ (List.mem_append_left _ h)))
theorem gk_k_misfit_end : lk_k_misfit_end.all goodWord = true := by decide +kernel
theorem gd_v_k_misfit_end : ∀ w ∈ v_k_misfit_end, gdW w := fun w h => (List.mem_cons.mp h).elim (fun e => by rw [e]; exact good_of_word rfl) (fun h => (List.mem_append.mp h).elim (fun h => good_of_word (List.all_eq_true.mp gk_k_misfit_end w h)) (fun h => (List.mem_append.mp h).elim (gd_wsX120 w) (fun h => (List.mem_append.mp h).elim (gd_v_k_failsAt w) (fun h => nomatch h))))
theorem g_k_misfit_end_298_v_k_failsAt : GoodIn v_k_misfit_end (wsV RX12 298 RX12 yX12_failsAt v_k_failsAt) := goodIn_app (fun w h => (fun h => (List.mem_cons.mp h).elim (fun e => by rw [e]; exact ⟨m_k_misfit_end_l298, good_of_word rfl⟩) (fun h => (List.mem_cons.mp h).elim (fun e => by rw [e]; exact ⟨m_k_misfit_end_j298, good_of_word rfl⟩) (fun h => (List.mem_cons.mp h).elim (fun e => by rw [e]; exact ⟨m_k_misfit_end_s298, good_of_word rfl⟩) (fun h => (List.mem_cons.mp h).elim (fun e => by rw [e]; exact ⟨m_k_misfit_end_z12, good_of_word rfl⟩) (fun h => nomatch h))))) h) (fun w h => ⟨j_k_misfit_end_v_k_failsAt w h, gd_v_k_failsAt w h⟩)
set_option maxHeartbeats 4000000 in
set_option maxRecDepth 100000 in
theorem k_misfit_end (l : Launch) (D : va_G) (cA : Nat → ClassId) (E : hp_N) (sz : Nat) (g : hp_M) (z : Int32) (h : Nat) (fs : List Value) (hL : fs.length = 137) (hh : g h = some (.inr (12, fs))) (h6 : fs[6]? = some (.int 0)) (h8 : fs[8]? = some (.int 0)) (h4 : fs[4]? = some (.int z))  : Met l yX12_misfit v_k_misfit_end ({ frames := 1, cells := 0, slots := 0, locals := 23 }) (hp_Pc D vwCl (hp_Tl cA) E sz g [.ref h]) (hp_Qv D vwCl (hp_Tl cA) sz g (fun u => ∃ fs1 : List Value, u = hp_up g h (.inr (12, fs1)) ∧ fs1.length = 137 ∧ fs1[6]? = some (.int 1) ∧ fs1[7]? = some (.int z) ∧ fs1[8]? = some (.int 0) ∧ ∀ k, (k ≠ 6 ∧ k ≠ 7 ∧ k ≠ 8) → fs1[k]? = fs[k]?)) 0 0 (hp_A g sz) := by
  refine hp_ofW (cc := cX12_misfit) (maxL := 1) (ret := none) (by decide) rfl (Nat.le_of_ble_eq_true rfl) ?_
  intro pp ee ss mm bb mt cd ls cx hsz hw hl
  have hl : lv_has ls 1 [(0, .ref h)] := hl
  refine lv_aload_n cx.1 cx.2.1 dX12_misfit_0 rfl (lv_at hl 0 rfl) ?_
  refine lv_iconst (v := 1) cx.1 cx.2.1 dX12_misfit_1 (by decide) ?_
  refine lv_aload_n cx.1 cx.2.1 dX12_misfit_2 rfl (lv_at hl 0 rfl) ?_
  refine hp_get (C := RX12) (T := TX12) (N := 137) (ci := 12) cx hw i_k_misfit_end_X12 rfl hh 8 (by decide) m_k_misfit_end_f292 (v := .int 0) h8 dX12_misfit_3 ?_
  refine lv_if_ne (tgt := 16) cx.1 cx.2.1 dX12_misfit_6 (by decide) (fun c6_1 => ?_) (fun c6_1 => ?_)
  · exact absurd c6_1 (by decide)
  refine lv_aload_n cx.1 cx.2.1 dX12_misfit_9 rfl (lv_at hl 0 rfl) ?_
  refine hp_get (C := RX12) (T := TX12) (N := 137) (ci := 12) cx hw i_k_misfit_end_X12 rfl hh 4 (by decide) m_k_misfit_end_f278 (v := .int z) h4 dX12_misfit_10 ?_
  refine lv_goto (tgt := 20) cx.1 cx.2.1 dX12_misfit_13 (by decide) ?_
  refine hp_callVv (As := [.int 1, .int z]) (rest := []) cx hw (k_failsAt l D cA E _ g 1 z h fs hL hh h6) (cwV 2 cx.2.2.2.2.2.1 g_k_misfit_end_298_v_k_failsAt rfl rfl rfl (by decide +kernel) ⟨Nat.le_of_ble_eq_true rfl, Nat.le_of_ble_eq_true rfl⟩) hh rfl rfl hl.1 rfl (Nat.le_of_ble_eq_true rfl) dX12_misfit_20 ⟨Nat.le_of_ble_eq_true rfl, Nat.le_of_ble_eq_true rfl⟩ (fun u2 H locs hp4 hw => ?_)
  obtain ⟨F5, eu2, lF5, vF5_0, vF5_1, vF5_2, kF5⟩ := hp4
  have f6 : u2 h = some (.inr (12, F5)) := (by rw [eu2]; exact hp_up_self _ _ _)
  have hu : u2 = hp_up g h (.inr (12, F5)) := by
    funext b; by_cases hb : b = h
    · subst hb; rw [hp_up_self]; exact f6
    · rw [hp_up_ne _ _ hb]; rw [eu2, hp_up_ne _ _ hb]
  have hfk : ∀ k, (k ≠ 6 ∧ k ≠ 7 ∧ k ≠ 8) → F5[k]? = fs[k]? := by
    intro k hk
    rw [kF5 k (by omega)]
  exact hp_vret cx hw (⟨F5, hu, lF5, vF5_0, vF5_1, vF5_2, hfk⟩) dX12_misfit_23

def lk_k_next_end : List Cond := [Cond.methodLink RX12 332 yX12_isFine, Cond.instanceMethod yX12_isFine, Cond.selects RX12 yX12_isFine yX12_isFine, Cond.initialized RX12, Cond.fieldLink RX12 336 "WardenHouseModel" "to" "I", Cond.methodLink RX12 339 yX12_at, Cond.instanceMethod yX12_at, Cond.selects RX12 yX12_at yX12_at, Cond.fieldLink RX12 295 "WardenHouseModel" "from" "I", Cond.fieldLink RX12 292 "WardenHouseModel" "word" "I"]
def v_k_next_end : List Cond := .code yX12_next cX12_next 3 none :: (lk_k_next_end ++ (v_k_isFine1 ++ (wsX120 ++ (v_k_at_out ++ []))))
theorem m_k_next_end_l332 : Cond.methodLink RX12 332 yX12_isFine ∈ v_k_next_end := List.mem_cons_of_mem _ (List.mem_append_left _ (List.mem_of_getElem? (i := 0) rfl))
theorem m_k_next_end_j332 : Cond.instanceMethod yX12_isFine ∈ v_k_next_end := List.mem_cons_of_mem _ (List.mem_append_left _ (List.mem_of_getElem? (i := 1) rfl))
theorem m_k_next_end_s332 : Cond.selects RX12 yX12_isFine yX12_isFine ∈ v_k_next_end := List.mem_cons_of_mem _ (List.mem_append_left _ (List.mem_of_getElem? (i := 2) rfl))
theorem m_k_next_end_z12 : Cond.initialized RX12 ∈ v_k_next_end := List.mem_cons_of_mem _ (List.mem_append_left _ (List.mem_of_getElem? (i := 3) rfl))
theorem m_k_next_end_f336 : Cond.fieldLink RX12 336 "WardenHouseModel" "to" "I" ∈ v_k_next_end := List.mem_cons_of_mem _ (List.mem_append_left _ (List.mem_of_getElem? (i := 4) rfl))
theorem m_k_next_end_l339 : Cond.methodLink RX12 339 yX12_at ∈ v_k_next_end := List.mem_cons_of_mem _ (List.mem_append_left _ (List.mem_of_getElem? (i := 5) rfl))
theorem m_k_next_end_j339 : Cond.instanceMethod yX12_at ∈ v_k_next_end := List.mem_cons_of_mem _ (List.mem_append_left _ (List.mem_of_getElem? (i := 6) rfl))
theorem m_k_next_end_s339 : Cond.selects RX12 yX12_at yX12_at ∈ v_k_next_end := List.mem_cons_of_mem _ (List.mem_append_left _ (List.mem_of_getElem? (i := 7) rfl))
theorem m_k_next_end_f295 : Cond.fieldLink RX12 295 "WardenHouseModel" "from" "I" ∈ v_k_next_end := List.mem_cons_of_mem _ (List.mem_append_left _ (List.mem_of_getElem? (i := 8) rfl))
theorem m_k_next_end_f292 : Cond.fieldLink RX12 292 "WardenHouseModel" "word" "I" ∈ v_k_next_end := List.mem_cons_of_mem _ (List.mem_append_left _ (List.mem_of_getElem? (i := 9) rfl))
theorem j_k_next_end_v_k_isFine1 : ∀ w ∈ v_k_isFine1, w ∈ v_k_next_end := fun _ h => List.mem_cons_of_mem _ (List.mem_append_right _ (List.mem_append_left _ h))
theorem i_k_next_end_X12 : ∀ w ∈ wsX120, w ∈ v_k_next_end := fun _ h => List.mem_cons_of_mem _ (List.mem_append_right _ (List.mem_append_right _ (List.mem_append_left _ h)))
theorem j_k_next_end_v_k_at_out : ∀ w ∈ v_k_at_out, w ∈ v_k_next_end := fun _ h => List.mem_cons_of_mem _ (List.mem_append_right _ (List.mem_append_right _ (List.mem_append_right _ (List.mem_append_left _ h))))
theorem gk_k_next_end : lk_k_next_end.all goodWord = true := by decide +kernel
theorem gd_v_k_next_end : ∀ w ∈ v_k_next_end, gdW w := fun w h => (List.mem_cons.mp h).elim (fun e => by rw [e]; exact good_of_word rfl) (fun h => (List.mem_append.mp h).elim (fun h => good_of_word (List.all_eq_true.mp gk_k_next_end w h)) (fun h => (List.mem_append.mp h).elim (gd_v_k_isFine1 w) (fun h => (List.mem_append.mp h).elim (gd_wsX120 w) (fun h => (List.mem_append.mp h).elim (gd_v_k_at_out w) (fun h => nomatch h)))))
theorem g_k_next_end_332_v_k_isFine1 : GoodIn v_k_next_end (wsV RX12 332 RX12 yX12_isFine v_k_isFine1) := goodIn_app (fun w h => (fun h => (List.mem_cons.mp h).elim (fun e => by rw [e]; exact ⟨m_k_next_end_l332, good_of_word rfl⟩) (fun h => (List.mem_cons.mp h).elim (fun e => by rw [e]; exact ⟨m_k_next_end_j332, good_of_word rfl⟩) (fun h => (List.mem_cons.mp h).elim (fun e => by rw [e]; exact ⟨m_k_next_end_s332, good_of_word rfl⟩) (fun h => (List.mem_cons.mp h).elim (fun e => by rw [e]; exact ⟨m_k_next_end_z12, good_of_word rfl⟩) (fun h => nomatch h))))) h) (fun w h => ⟨j_k_next_end_v_k_isFine1 w h, gd_v_k_isFine1 w h⟩)
theorem g_k_next_end_339_v_k_at_out : GoodIn v_k_next_end (wsV RX12 339 RX12 yX12_at v_k_at_out) := goodIn_app (fun w h => (fun h => (List.mem_cons.mp h).elim (fun e => by rw [e]; exact ⟨m_k_next_end_l339, good_of_word rfl⟩) (fun h => (List.mem_cons.mp h).elim (fun e => by rw [e]; exact ⟨m_k_next_end_j339, good_of_word rfl⟩) (fun h => (List.mem_cons.mp h).elim (fun e => by rw [e]; exact ⟨m_k_next_end_s339, good_of_word rfl⟩) (fun h => (List.mem_cons.mp h).elim (fun e => by rw [e]; exact ⟨m_k_next_end_z12, good_of_word rfl⟩) (fun h => nomatch h))))) h) (fun w h => ⟨j_k_next_end_v_k_at_out w h, gd_v_k_at_out w h⟩)
set_option maxHeartbeats 4000000 in
set_option maxRecDepth 100000 in
theorem k_next_end (l : Launch) (D : va_G) (cA : Nat → ClassId) (E : hp_N) (sz : Nat) (g : hp_M) (z t : Int32) (h : Nat) (fs : List Value) (hL : fs.length = 137) (hh : g h = some (.inr (12, fs))) (h6 : fs[6]? = some (.int 0)) (h4 : fs[4]? = some (.int z)) (h10 : fs[10]? = some (.int t)) (hz : z ≤ t) : Met l yX12_next v_k_next_end ({ frames := 1, cells := 0, slots := 0, locals := 22 }) (hp_Pc D vwCl (hp_Tl cA) E sz g [.ref h]) (hp_Qv D vwCl (hp_Tl cA) sz g (fun u => ∃ fs1 : List Value, u = hp_up g h (.inr (12, fs1)) ∧ fs1.length = 137 ∧ fs1[8]? = some (.int 0) ∧ fs1[9]? = some (.int t) ∧ ∀ k, (k ≠ 8 ∧ k ≠ 9) → fs1[k]? = fs[k]?)) 0 0 (hp_A g sz) := by
  refine hp_ofW (cc := cX12_next) (maxL := 3) (ret := none) (by decide) rfl (Nat.le_of_ble_eq_true rfl) ?_
  intro pp ee ss mm bb mt cd ls cx hsz hw hl
  have hl : lv_has ls 3 [(0, .ref h)] := hl
  refine lv_aload_n cx.1 cx.2.1 dX12_next_0 rfl (lv_at hl 0 rfl) ?_
  refine hp_callVi (As := []) (rest := []) cx hw (k_isFine1 l D cA E _ g h fs hL hh h6) (cwV 0 cx.2.2.2.2.2.1 g_k_next_end_332_v_k_isFine1 rfl rfl rfl (by decide +kernel) ⟨Nat.le_of_ble_eq_true rfl, Nat.le_of_ble_eq_true rfl⟩) hh rfl rfl hl.1 rfl (Nat.le_of_ble_eq_true rfl) dX12_next_1 ⟨Nat.le_of_ble_eq_true rfl, Nat.le_of_ble_eq_true rfl⟩ (fun r2 u1 H locs hp3 hw => ?_)
  obtain ⟨euu1, err2⟩ := hp3
  rw [euu1] at hw
  subst err2
  refine lv_if_ne (tgt := 8) cx.1 cx.2.1 dX12_next_4 (by decide) (fun c4_4 => ?_) (fun c4_4 => ?_)
  rotate_left
  · exact absurd c4_4 (by decide)
  refine lv_iconst (v := 1) cx.1 cx.2.1 dX12_next_8 (by decide) ?_
  refine lv_istore_n (lv' := [(1, .int 1), (0, .ref h)]) cx.1 cx.2.1 dX12_next_9 rfl hl (by decide) rfl (fun ls hl => ?_)
  refine lv_iload_n cx.1 cx.2.1 dX12_next_10 rfl (lv_at hl 0 rfl) ?_
  refine lv_if_eq (tgt := 118) cx.1 cx.2.1 dX12_next_11 (by decide) (fun c11_5 => ?_) (fun c11_5 => ?_)
  · exact absurd c11_5 (by decide)
  refine lv_aload_n cx.1 cx.2.1 dX12_next_14 rfl (lv_at hl 1 rfl) ?_
  refine lv_aload_n cx.1 cx.2.1 dX12_next_15 rfl (lv_at hl 1 rfl) ?_
  refine hp_get (C := RX12) (T := TX12) (N := 137) (ci := 12) cx hw i_k_next_end_X12 rfl hh 10 (by decide) m_k_next_end_f336 (v := .int t) h10 dX12_next_16 ?_
  refine hp_callVi (As := [.int t]) (rest := []) cx hw (k_at_out l D cA E _ g z t h fs hL hh h4 hz) (cwV 1 cx.2.2.2.2.2.1 g_k_next_end_339_v_k_at_out rfl rfl rfl (by decide +kernel) ⟨Nat.le_of_ble_eq_true rfl, Nat.le_of_ble_eq_true rfl⟩) hh rfl rfl hl.1 rfl (Nat.le_of_ble_eq_true rfl) dX12_next_19 ⟨Nat.le_of_ble_eq_true rfl, Nat.le_of_ble_eq_true rfl⟩ (fun r7 u6 H locs hp8 hw => ?_)
  obtain ⟨euu6, err7⟩ := hp8
  rw [euu6] at hw
  subst err7
  refine lv_bipush (v := 32) cx.1 cx.2.1 dX12_next_22 (by decide) ?_
  refine lv_icmp_eq (tgt := 40) cx.1 cx.2.1 dX12_next_24 (by decide) (fun c24_9 => ?_) (fun c24_9 => ?_)
  · exact absurd c24_9 (by decide)
  refine lv_aload_n cx.1 cx.2.1 dX12_next_27 rfl (lv_at hl 1 rfl) ?_
  refine lv_aload_n cx.1 cx.2.1 dX12_next_28 rfl (lv_at hl 1 rfl) ?_
  refine hp_get (C := RX12) (T := TX12) (N := 137) (ci := 12) cx hw i_k_next_end_X12 rfl hh 10 (by decide) m_k_next_end_f336 (v := .int t) h10 dX12_next_29 ?_
  refine hp_callVi (As := [.int t]) (rest := []) cx hw (k_at_out l D cA E _ g z t h fs hL hh h4 hz) (cwV 1 cx.2.2.2.2.2.1 g_k_next_end_339_v_k_at_out rfl rfl rfl (by decide +kernel) ⟨Nat.le_of_ble_eq_true rfl, Nat.le_of_ble_eq_true rfl⟩) hh rfl rfl hl.1 rfl (Nat.le_of_ble_eq_true rfl) dX12_next_32 ⟨Nat.le_of_ble_eq_true rfl, Nat.le_of_ble_eq_true rfl⟩ (fun r11 u10 H locs hp12 hw => ?_)
  obtain ⟨euu10, err11⟩ := hp12
  rw [euu10] at hw
  subst err11
  refine lv_bipush (v := 10) cx.1 cx.2.1 dX12_next_35 (by decide) ?_
  refine lv_icmp_ne (tgt := 44) cx.1 cx.2.1 dX12_next_37 (by decide) (fun c37_13 => ?_) (fun c37_13 => ?_)
  rotate_left
  · exact absurd c37_13 (by decide)
  refine lv_iconst (v := 0) cx.1 cx.2.1 dX12_next_44 (by decide) ?_
  refine lv_istore_n (lv' := [(1, .int 0), (0, .ref h)]) cx.1 cx.2.1 dX12_next_45 rfl hl (by decide) rfl (fun ls hl => ?_)
  refine lv_aload_n cx.1 cx.2.1 dX12_next_46 rfl (lv_at hl 1 rfl) ?_
  refine lv_aload_n cx.1 cx.2.1 dX12_next_47 rfl (lv_at hl 1 rfl) ?_
  refine hp_get (C := RX12) (T := TX12) (N := 137) (ci := 12) cx hw i_k_next_end_X12 rfl hh 10 (by decide) m_k_next_end_f336 (v := .int t) h10 dX12_next_48 ?_
  refine hp_callVi (As := [.int t]) (rest := []) cx hw (k_at_out l D cA E _ g z t h fs hL hh h4 hz) (cwV 1 cx.2.2.2.2.2.1 g_k_next_end_339_v_k_at_out rfl rfl rfl (by decide +kernel) ⟨Nat.le_of_ble_eq_true rfl, Nat.le_of_ble_eq_true rfl⟩) hh rfl rfl hl.1 rfl (Nat.le_of_ble_eq_true rfl) dX12_next_51 ⟨Nat.le_of_ble_eq_true rfl, Nat.le_of_ble_eq_true rfl⟩ (fun r15 u14 H locs hp16 hw => ?_)
  obtain ⟨euu14, err15⟩ := hp16
  rw [euu14] at hw
  subst err15
  refine lv_bipush (v := 35) cx.1 cx.2.1 dX12_next_54 (by decide) ?_
  refine lv_icmp_ne (tgt := 101) cx.1 cx.2.1 dX12_next_56 (by decide) (fun c56_17 => ?_) (fun c56_17 => ?_)
  rotate_left
  · exact absurd c56_17 (by decide)
  refine lv_iload_n cx.1 cx.2.1 dX12_next_101 rfl (lv_at hl 0 rfl) ?_
  refine lv_if_eq (tgt := 10) cx.1 cx.2.1 dX12_next_102 (by decide) (fun c102_18 => ?_) (fun c102_18 => ?_)
  rotate_left
  · exact absurd (by decide) c102_18
  refine lv_iload_n cx.1 cx.2.1 dX12_next_10 rfl (lv_at hl 0 rfl) ?_
  refine lv_if_eq (tgt := 118) cx.1 cx.2.1 dX12_next_11 (by decide) (fun c11_19 => ?_) (fun c11_19 => ?_)
  rotate_left
  · exact absurd (by decide) c11_19
  refine lv_aload_n cx.1 cx.2.1 dX12_next_118 rfl (lv_at hl 1 rfl) ?_
  refine lv_aload_n cx.1 cx.2.1 dX12_next_119 rfl (lv_at hl 1 rfl) ?_
  refine hp_get (C := RX12) (T := TX12) (N := 137) (ci := 12) cx hw i_k_next_end_X12 rfl hh 10 (by decide) m_k_next_end_f336 (v := .int t) h10 dX12_next_120 ?_
  obtain ⟨F21, eF21⟩ : ∃ F1, F1 = fs.set 9 (.int t) := ⟨_, rfl⟩
  have lF21 : F21.length = 137 := by rw [eF21, List.length_set]; exact hL
  have vF21 : F21[9]? = some (.int t) := by rw [eF21]; exact fl_self (by rw [hL]; decide)
  refine hp_put (C := RX12) (T := TX12) (N := 137) (ci := 12) (fs' := F21) cx hw i_k_next_end_X12 tyX12_ok nmX12 rfl hh 9 (by decide) m_k_next_end_f295 rfl  rfl rfl (by rw [hL]; decide) eF21.symm dX12_next_123 (fun g20 H locs eg20 hw => ?_)
  have f22 : g20 h = some (.inr (12, F21)) := (by rw [eg20]; exact hp_up_self _ _ _)
  refine lv_aload_n cx.1 cx.2.1 dX12_next_126 rfl (lv_at hl 1 rfl) ?_
  refine lv_aload_n cx.1 cx.2.1 dX12_next_127 rfl (lv_at hl 1 rfl) ?_
  have v23 : F21[10]? = some (.int t) := by rw [eF21]; exact (fl_ne (by decide)).trans h10
  refine hp_get (C := RX12) (T := TX12) (N := 137) (ci := 12) cx hw i_k_next_end_X12 rfl f22 10 (by decide) m_k_next_end_f336 (v := .int t) v23 dX12_next_128 ?_
  have v24 : F21[4]? = some (.int z) := by rw [eF21]; exact (fl_ne (by decide)).trans h4
  refine hp_callVi (As := [.int t]) (rest := []) cx hw (k_at_out l D cA E _ g20 z t h F21 lF21 f22 v24 hz) (cwV 1 cx.2.2.2.2.2.1 g_k_next_end_339_v_k_at_out rfl rfl rfl (by decide +kernel) ⟨Nat.le_of_ble_eq_true rfl, Nat.le_of_ble_eq_true rfl⟩) f22 rfl rfl hl.1 rfl (Nat.le_of_ble_eq_true rfl) dX12_next_131 ⟨Nat.le_of_ble_eq_true rfl, Nat.le_of_ble_eq_true rfl⟩ (fun r26 u25 H locs hp27 hw => ?_)
  obtain ⟨euu25, err26⟩ := hp27
  rw [euu25] at hw
  subst err26
  refine lv_istore_n (lv' := [(2, .int (-1)), (1, .int 0), (0, .ref h)]) cx.1 cx.2.1 dX12_next_134 rfl hl (by decide) rfl (fun ls hl => ?_)
  refine lv_iload_n cx.1 cx.2.1 dX12_next_135 rfl (lv_at hl 0 rfl) ?_
  refine lv_iconst (v := (-1)) cx.1 cx.2.1 dX12_next_136 (by decide) ?_
  refine lv_icmp_ne (tgt := 148) cx.1 cx.2.1 dX12_next_137 (by decide) (fun c137_28 => ?_) (fun c137_28 => ?_)
  · exact absurd c137_28 (by decide)
  refine lv_aload_n cx.1 cx.2.1 dX12_next_140 rfl (lv_at hl 2 rfl) ?_
  refine lv_iconst (v := 0) cx.1 cx.2.1 dX12_next_141 (by decide) ?_
  obtain ⟨F30, eF30⟩ : ∃ F1, F1 = F21.set 8 (.int 0) := ⟨_, rfl⟩
  have lF30 : F30.length = 137 := by rw [eF30, List.length_set]; exact lF21
  have vF30 : F30[8]? = some (.int 0) := by rw [eF30]; exact fl_self (by rw [lF21]; decide)
  refine hp_put (C := RX12) (T := TX12) (N := 137) (ci := 12) (fs' := F30) cx hw i_k_next_end_X12 tyX12_ok nmX12 rfl f22 8 (by decide) m_k_next_end_f292 rfl  rfl rfl (by rw [lF21]; decide) eF30.symm dX12_next_142 (fun g29 H locs eg29 hw => ?_)
  have f31 : g29 h = some (.inr (12, F30)) := (by rw [eg29]; exact hp_up_self _ _ _)
  refine lv_goto (tgt := 194) cx.1 cx.2.1 dX12_next_145 (by decide) ?_
  have v32 : F30[9]? = some (.int t) := by rw [eF30]; exact (fl_ne (by decide)).trans vF21
  have hu : g29 = hp_up g h (.inr (12, F30)) := by
    funext b; by_cases hb : b = h
    · subst hb; rw [hp_up_self]; exact f31
    · rw [hp_up_ne _ _ hb]; rw [eg29, hp_up_ne _ _ hb]; rw [eg20, hp_up_ne _ _ hb]
  have hfk : ∀ k, (k ≠ 8 ∧ k ≠ 9) → F30[k]? = fs[k]? := by
    intro k hk
    rw [eF30, fl_ne (by omega)]; rw [eF21, fl_ne (by omega)]
  exact hp_vret cx hw (⟨F30, hu, lF30, vF30, v32, hfk⟩) dX12_next_194

def lk_k_key_end : List Cond := [Cond.methodLink RX12 394 yX12_isKey, Cond.instanceMethod yX12_isKey, Cond.selects RX12 yX12_isKey yX12_isKey, Cond.initialized RX12, Cond.methodLink RX12 332 yX12_isFine, Cond.instanceMethod yX12_isFine, Cond.selects RX12 yX12_isFine yX12_isFine, Cond.methodLink RX12 391 yX12_misfit, Cond.instanceMethod yX12_misfit, Cond.selects RX12 yX12_misfit yX12_misfit]
def v_k_key_end : List Cond := .code yX12_key cX12_key 2 none :: (lk_k_key_end ++ (v_k_isKey_no ++ (v_k_isFine1 ++ (v_k_misfit_end ++ []))))
theorem m_k_key_end_l394 : Cond.methodLink RX12 394 yX12_isKey ∈ v_k_key_end := List.mem_cons_of_mem _ (List.mem_append_left _ (List.mem_of_getElem? (i := 0) rfl))
theorem m_k_key_end_j394 : Cond.instanceMethod yX12_isKey ∈ v_k_key_end := List.mem_cons_of_mem _ (List.mem_append_left _ (List.mem_of_getElem? (i := 1) rfl))
theorem m_k_key_end_s394 : Cond.selects RX12 yX12_isKey yX12_isKey ∈ v_k_key_end := List.mem_cons_of_mem _ (List.mem_append_left _ (List.mem_of_getElem? (i := 2) rfl))
theorem m_k_key_end_z12 : Cond.initialized RX12 ∈ v_k_key_end := List.mem_cons_of_mem _ (List.mem_append_left _ (List.mem_of_getElem? (i := 3) rfl))
theorem m_k_key_end_l332 : Cond.methodLink RX12 332 yX12_isFine ∈ v_k_key_end := List.mem_cons_of_mem _ (List.mem_append_left _ (List.mem_of_getElem? (i := 4) rfl))
theorem m_k_key_end_j332 : Cond.instanceMethod yX12_isFine ∈ v_k_key_end := List.mem_cons_of_mem _ (List.mem_append_left _ (List.mem_of_getElem? (i := 5) rfl))
theorem m_k_key_end_s332 : Cond.selects RX12 yX12_isFine yX12_isFine ∈ v_k_key_end := List.mem_cons_of_mem _ (List.mem_append_left _ (List.mem_of_getElem? (i := 6) rfl))
theorem m_k_key_end_l391 : Cond.methodLink RX12 391 yX12_misfit ∈ v_k_key_end := List.mem_cons_of_mem _ (List.mem_append_left _ (List.mem_of_getElem? (i := 7) rfl))
theorem m_k_key_end_j391 : Cond.instanceMethod yX12_misfit ∈ v_k_key_end := List.mem_cons_of_mem _ (List.mem_append_left _ (List.mem_of_getElem? (i := 8) rfl))
theorem m_k_key_end_s391 : Cond.selects RX12 yX12_misfit yX12_misfit ∈ v_k_key_end := List.mem_cons_of_mem _ (List.mem_append_left _ (List.mem_of_getElem? (i := 9) rfl))
theorem j_k_key_end_v_k_isKey_no : ∀ w ∈ v_k_isKey_no, w ∈ v_k_key_end := fun _ h => List.mem_cons_of_mem _ (List.mem_append_right _ (List.mem_append_left _ h))
theorem j_k_key_end_v_k_isFine1 : ∀ w ∈ v_k_isFine1, w ∈ v_k_key_end := fun _ h => List.mem_cons_of_mem _ (List.mem_append_right _ (List.mem_append_right _ (List.mem_append_left _ h)))
theorem j_k_key_end_v_k_misfit_end : ∀ w ∈ v_k_misfit_end, w ∈ v_k_key_end := fun _ h => List.mem_cons_of_mem _ (List.mem_append_right _ (List.mem_append_right _ (List.mem_append_right _ (List.mem_append_left _ h))))
theorem gk_k_key_end : lk_k_key_end.all goodWord = true := by decide +kernel
theorem gd_v_k_key_end : ∀ w ∈ v_k_key_end, gdW w := fun w h => (List.mem_cons.mp h).elim (fun e => by rw [e]; exact good_of_word rfl) (fun h => (List.mem_append.mp h).elim (fun h => good_of_word (List.all_eq_true.mp gk_k_key_end w h)) (fun h => (List.mem_append.mp h).elim (gd_v_k_isKey_no w) (fun h => (List.mem_append.mp h).elim (gd_v_k_isFine1 w) (fun h => (List.mem_append.mp h).elim (gd_v_k_misfit_end w) (fun h => nomatch h)))))
theorem g_k_key_end_394_v_k_isKey_no : GoodIn v_k_key_end (wsV RX12 394 RX12 yX12_isKey v_k_isKey_no) := goodIn_app (fun w h => (fun h => (List.mem_cons.mp h).elim (fun e => by rw [e]; exact ⟨m_k_key_end_l394, good_of_word rfl⟩) (fun h => (List.mem_cons.mp h).elim (fun e => by rw [e]; exact ⟨m_k_key_end_j394, good_of_word rfl⟩) (fun h => (List.mem_cons.mp h).elim (fun e => by rw [e]; exact ⟨m_k_key_end_s394, good_of_word rfl⟩) (fun h => (List.mem_cons.mp h).elim (fun e => by rw [e]; exact ⟨m_k_key_end_z12, good_of_word rfl⟩) (fun h => nomatch h))))) h) (fun w h => ⟨j_k_key_end_v_k_isKey_no w h, gd_v_k_isKey_no w h⟩)
theorem g_k_key_end_332_v_k_isFine1 : GoodIn v_k_key_end (wsV RX12 332 RX12 yX12_isFine v_k_isFine1) := goodIn_app (fun w h => (fun h => (List.mem_cons.mp h).elim (fun e => by rw [e]; exact ⟨m_k_key_end_l332, good_of_word rfl⟩) (fun h => (List.mem_cons.mp h).elim (fun e => by rw [e]; exact ⟨m_k_key_end_j332, good_of_word rfl⟩) (fun h => (List.mem_cons.mp h).elim (fun e => by rw [e]; exact ⟨m_k_key_end_s332, good_of_word rfl⟩) (fun h => (List.mem_cons.mp h).elim (fun e => by rw [e]; exact ⟨m_k_key_end_z12, good_of_word rfl⟩) (fun h => nomatch h))))) h) (fun w h => ⟨j_k_key_end_v_k_isFine1 w h, gd_v_k_isFine1 w h⟩)
theorem g_k_key_end_391_v_k_misfit_end : GoodIn v_k_key_end (wsV RX12 391 RX12 yX12_misfit v_k_misfit_end) := goodIn_app (fun w h => (fun h => (List.mem_cons.mp h).elim (fun e => by rw [e]; exact ⟨m_k_key_end_l391, good_of_word rfl⟩) (fun h => (List.mem_cons.mp h).elim (fun e => by rw [e]; exact ⟨m_k_key_end_j391, good_of_word rfl⟩) (fun h => (List.mem_cons.mp h).elim (fun e => by rw [e]; exact ⟨m_k_key_end_s391, good_of_word rfl⟩) (fun h => (List.mem_cons.mp h).elim (fun e => by rw [e]; exact ⟨m_k_key_end_z12, good_of_word rfl⟩) (fun h => nomatch h))))) h) (fun w h => ⟨j_k_key_end_v_k_misfit_end w h, gd_v_k_misfit_end w h⟩)
set_option maxHeartbeats 4000000 in
set_option maxRecDepth 100000 in
theorem k_key_end (l : Launch) (D : va_G) (cA : Nat → ClassId) (E : hp_N) (sz : Nat) (g : hp_M) (z x : Int32) (h : Nat) (fs : List Value) (hL : fs.length = 137) (hh : g h = some (.inr (12, fs))) (h6 : fs[6]? = some (.int 0)) (h8 : fs[8]? = some (.int 0)) (h4 : fs[4]? = some (.int z))  : Met l yX12_key v_k_key_end ({ frames := 2, cells := 0, slots := 0, locals := 50 }) (hp_Pc D vwCl (hp_Tl cA) E sz g [.ref h, .int x]) (hp_Qv D vwCl (hp_Tl cA) sz g (fun u => ∃ fs1 : List Value, u = hp_up g h (.inr (12, fs1)) ∧ fs1.length = 137 ∧ fs1[6]? = some (.int 1) ∧ fs1[7]? = some (.int z) ∧ fs1[8]? = some (.int 0) ∧ ∀ k, (k ≠ 6 ∧ k ≠ 7 ∧ k ≠ 8) → fs1[k]? = fs[k]?)) 0 0 (hp_A g sz) := by
  refine hp_ofW (cc := cX12_key) (maxL := 2) (ret := none) (by decide) rfl (Nat.le_of_ble_eq_true rfl) ?_
  intro pp ee ss mm bb mt cd ls cx hsz hw hl
  have hl : lv_has ls 2 [(0, .ref h), (1, .int x)] := hl
  refine lv_aload_n cx.1 cx.2.1 dX12_key_0 rfl (lv_at hl 0 rfl) ?_
  refine lv_iload_n cx.1 cx.2.1 dX12_key_1 rfl (lv_at hl 1 rfl) ?_
  refine hp_callVi (As := [.int x]) (rest := []) cx hw (k_isKey_no l D cA E _ g x 0 h fs hL hh h6 h8 (by decide)) (cwV 1 cx.2.2.2.2.2.1 g_k_key_end_394_v_k_isKey_no rfl rfl rfl (by decide +kernel) ⟨Nat.le_of_ble_eq_true rfl, Nat.le_of_ble_eq_true rfl⟩) hh rfl rfl hl.1 rfl (Nat.le_of_ble_eq_true rfl) dX12_key_2 ⟨Nat.le_of_ble_eq_true rfl, Nat.le_of_ble_eq_true rfl⟩ (fun r2 u1 H locs hp3 hw => ?_)
  obtain ⟨euu1, err2⟩ := hp3
  rw [euu1] at hw
  subst err2
  refine lv_if_eq (tgt := 15) cx.1 cx.2.1 dX12_key_5 (by decide) (fun c5_4 => ?_) (fun c5_4 => ?_)
  rotate_left
  · exact absurd (by decide) c5_4
  refine lv_aload_n cx.1 cx.2.1 dX12_key_15 rfl (lv_at hl 0 rfl) ?_
  refine hp_callVi (As := []) (rest := []) cx hw (k_isFine1 l D cA E _ g h fs hL hh h6) (cwV 0 cx.2.2.2.2.2.1 g_k_key_end_332_v_k_isFine1 rfl rfl rfl (by decide +kernel) ⟨Nat.le_of_ble_eq_true rfl, Nat.le_of_ble_eq_true rfl⟩) hh rfl rfl hl.1 rfl (Nat.le_of_ble_eq_true rfl) dX12_key_16 ⟨Nat.le_of_ble_eq_true rfl, Nat.le_of_ble_eq_true rfl⟩ (fun r6 u5 H locs hp7 hw => ?_)
  obtain ⟨euu5, err6⟩ := hp7
  rw [euu5] at hw
  subst err6
  refine lv_if_eq (tgt := 26) cx.1 cx.2.1 dX12_key_19 (by decide) (fun c19_8 => ?_) (fun c19_8 => ?_)
  · exact absurd c19_8 (by decide)
  refine lv_aload_n cx.1 cx.2.1 dX12_key_22 rfl (lv_at hl 0 rfl) ?_
  refine hp_callVv (As := []) (rest := []) cx hw (k_misfit_end l D cA E _ g z h fs hL hh h6 h8 h4) (cwV 0 cx.2.2.2.2.2.1 g_k_key_end_391_v_k_misfit_end rfl rfl rfl (by decide +kernel) ⟨Nat.le_of_ble_eq_true rfl, Nat.le_of_ble_eq_true rfl⟩) hh rfl rfl hl.1 rfl (Nat.le_of_ble_eq_true rfl) dX12_key_23 ⟨Nat.le_of_ble_eq_true rfl, Nat.le_of_ble_eq_true rfl⟩ (fun u9 H locs hp11 hw => ?_)
  obtain ⟨F12, eu9, lF12, vF12_0, vF12_1, vF12_2, kF12⟩ := hp11
  have f13 : u9 h = some (.inr (12, F12)) := (by rw [eu9]; exact hp_up_self _ _ _)
  have hu : u9 = hp_up g h (.inr (12, F12)) := by
    funext b; by_cases hb : b = h
    · subst hb; rw [hp_up_self]; exact f13
    · rw [hp_up_ne _ _ hb]; rw [eu9, hp_up_ne _ _ hb]
  have hfk : ∀ k, (k ≠ 6 ∧ k ≠ 7 ∧ k ≠ 8) → F12[k]? = fs[k]? := by
    intro k hk
    rw [kF12 k (by omega)]
  exact hp_vret cx hw (⟨F12, hu, lF12, vF12_0, vF12_1, vF12_2, hfk⟩) dX12_key_26

def lk_k_isName_no : List Cond := [Cond.methodLink RX12 332 yX12_isFine, Cond.instanceMethod yX12_isFine, Cond.selects RX12 yX12_isFine yX12_isFine, Cond.initialized RX12]
def v_k_isName_no : List Cond := .code yX12_isName cX12_isName 1 (some .boolean) :: (lk_k_isName_no ++ (v_k_isFine0 ++ []))
theorem m_k_isName_no_l332 : Cond.methodLink RX12 332 yX12_isFine ∈ v_k_isName_no := List.mem_cons_of_mem _ (List.mem_append_left _ (List.mem_of_getElem? (i := 0) rfl))
theorem m_k_isName_no_j332 : Cond.instanceMethod yX12_isFine ∈ v_k_isName_no := List.mem_cons_of_mem _ (List.mem_append_left _ (List.mem_of_getElem? (i := 1) rfl))
theorem m_k_isName_no_s332 : Cond.selects RX12 yX12_isFine yX12_isFine ∈ v_k_isName_no := List.mem_cons_of_mem _ (List.mem_append_left _ (List.mem_of_getElem? (i := 2) rfl))
theorem m_k_isName_no_z12 : Cond.initialized RX12 ∈ v_k_isName_no := List.mem_cons_of_mem _ (List.mem_append_left _ (List.mem_of_getElem? (i := 3) rfl))
theorem j_k_isName_no_v_k_isFine0 : ∀ w ∈ v_k_isFine0, w ∈ v_k_isName_no := fun _ h => List.mem_cons_of_mem _ (List.mem_append_right _ (List.mem_append_left _ h))
theorem gk_k_isName_no : lk_k_isName_no.all goodWord = true := by decide +kernel
theorem gd_v_k_isName_no : ∀ w ∈ v_k_isName_no, gdW w := fun w h => (List.mem_cons.mp h).elim (fun e => by rw [e]; exact good_of_word rfl) (fun h => (List.mem_append.mp h).elim (fun h => good_of_word (List.all_eq_true.mp gk_k_isName_no w h)) (fun h => (List.mem_append.mp h).elim (gd_v_k_isFine0 w) (fun h => nomatch h)))
theorem g_k_isName_no_332_v_k_isFine0 : GoodIn v_k_isName_no (wsV RX12 332 RX12 yX12_isFine v_k_isFine0) := goodIn_app (fun w h => (fun h => (List.mem_cons.mp h).elim (fun e => by rw [e]; exact ⟨m_k_isName_no_l332, good_of_word rfl⟩) (fun h => (List.mem_cons.mp h).elim (fun e => by rw [e]; exact ⟨m_k_isName_no_j332, good_of_word rfl⟩) (fun h => (List.mem_cons.mp h).elim (fun e => by rw [e]; exact ⟨m_k_isName_no_s332, good_of_word rfl⟩) (fun h => (List.mem_cons.mp h).elim (fun e => by rw [e]; exact ⟨m_k_isName_no_z12, good_of_word rfl⟩) (fun h => nomatch h))))) h) (fun w h => ⟨j_k_isName_no_v_k_isFine0 w h, gd_v_k_isFine0 w h⟩)
set_option maxHeartbeats 4000000 in
set_option maxRecDepth 100000 in
theorem k_isName_no (l : Launch) (D : va_G) (cA : Nat → ClassId) (E : hp_N) (sz : Nat) (g : hp_M) (x : Int32) (h : Nat) (fs : List Value) (hL : fs.length = 137) (hh : g h = some (.inr (12, fs))) (h6 : fs[6]? = some (.int x)) (hx : ¬ x = 0) : Met l yX12_isName v_k_isName_no ({ frames := 1, cells := 0, slots := 0, locals := 20 }) (hp_Pc D vwCl (hp_Tl cA) E sz g [.ref h]) (hp_Qi D vwCl (hp_Tl cA) sz g (fun r u => u = g ∧ r = 0)) 0 0 (hp_A g sz) := by
  refine hp_ofW (cc := cX12_isName) (maxL := 1) (ret := (some .boolean)) (by decide) rfl (Nat.le_of_ble_eq_true rfl) ?_
  intro pp ee ss mm bb mt cd ls cx hsz hw hl
  have hl : lv_has ls 1 [(0, .ref h)] := hl
  refine lv_aload_n cx.1 cx.2.1 dX12_isName_0 rfl (lv_at hl 0 rfl) ?_
  refine hp_callVi (As := []) (rest := []) cx hw (k_isFine0 l D cA E _ g x h fs hL hh h6 hx) (cwV 0 cx.2.2.2.2.2.1 g_k_isName_no_332_v_k_isFine0 rfl rfl rfl (by decide +kernel) ⟨Nat.le_of_ble_eq_true rfl, Nat.le_of_ble_eq_true rfl⟩) hh rfl rfl hl.1 rfl (Nat.le_of_ble_eq_true rfl) dX12_isName_1 ⟨Nat.le_of_ble_eq_true rfl, Nat.le_of_ble_eq_true rfl⟩ (fun r2 u1 H locs hp3 hw => ?_)
  obtain ⟨euu1, err2⟩ := hp3
  rw [euu1] at hw
  subst err2
  refine lv_if_eq (tgt := 19) cx.1 cx.2.1 dX12_isName_4 (by decide) (fun c4_4 => ?_) (fun c4_4 => ?_)
  rotate_left
  · exact absurd (by decide) c4_4
  refine lv_aload_n cx.1 cx.2.1 dX12_isName_19 rfl (lv_at hl 0 rfl) ?_
  refine hp_callVi (As := []) (rest := []) cx hw (k_isFine0 l D cA E _ g x h fs hL hh h6 hx) (cwV 0 cx.2.2.2.2.2.1 g_k_isName_no_332_v_k_isFine0 rfl rfl rfl (by decide +kernel) ⟨Nat.le_of_ble_eq_true rfl, Nat.le_of_ble_eq_true rfl⟩) hh rfl rfl hl.1 rfl (Nat.le_of_ble_eq_true rfl) dX12_isName_20 ⟨Nat.le_of_ble_eq_true rfl, Nat.le_of_ble_eq_true rfl⟩ (fun r6 u5 H locs hp7 hw => ?_)
  obtain ⟨euu5, err6⟩ := hp7
  rw [euu5] at hw
  subst err6
  exact hp_zret cx hw (⟨rfl, rfl⟩) (by decide) dX12_isName_23

def lk_k_readModule_end : List Cond := [Cond.methodLink RX12 485 yX12_key, Cond.instanceMethod yX12_key, Cond.selects RX12 yX12_key yX12_key, Cond.initialized RX12, Cond.methodLink RX12 400 yX12_isName, Cond.instanceMethod yX12_isName, Cond.selects RX12 yX12_isName yX12_isName]
def v_k_readModule_end : List Cond := .code yX12_readModule cX12_readModule 2 none :: (lk_k_readModule_end ++ (v_k_key_end ++ (v_k_isName_no ++ [])))
theorem m_k_readModule_end_l485 : Cond.methodLink RX12 485 yX12_key ∈ v_k_readModule_end := List.mem_cons_of_mem _ (List.mem_append_left _ (List.mem_of_getElem? (i := 0) rfl))
theorem m_k_readModule_end_j485 : Cond.instanceMethod yX12_key ∈ v_k_readModule_end := List.mem_cons_of_mem _ (List.mem_append_left _ (List.mem_of_getElem? (i := 1) rfl))
theorem m_k_readModule_end_s485 : Cond.selects RX12 yX12_key yX12_key ∈ v_k_readModule_end := List.mem_cons_of_mem _ (List.mem_append_left _ (List.mem_of_getElem? (i := 2) rfl))
theorem m_k_readModule_end_z12 : Cond.initialized RX12 ∈ v_k_readModule_end := List.mem_cons_of_mem _ (List.mem_append_left _ (List.mem_of_getElem? (i := 3) rfl))
theorem m_k_readModule_end_l400 : Cond.methodLink RX12 400 yX12_isName ∈ v_k_readModule_end := List.mem_cons_of_mem _ (List.mem_append_left _ (List.mem_of_getElem? (i := 4) rfl))
theorem m_k_readModule_end_j400 : Cond.instanceMethod yX12_isName ∈ v_k_readModule_end := List.mem_cons_of_mem _ (List.mem_append_left _ (List.mem_of_getElem? (i := 5) rfl))
theorem m_k_readModule_end_s400 : Cond.selects RX12 yX12_isName yX12_isName ∈ v_k_readModule_end := List.mem_cons_of_mem _ (List.mem_append_left _ (List.mem_of_getElem? (i := 6) rfl))
theorem j_k_readModule_end_v_k_key_end : ∀ w ∈ v_k_key_end, w ∈ v_k_readModule_end := fun _ h => List.mem_cons_of_mem _ (List.mem_append_right _ (List.mem_append_left _ h))
theorem j_k_readModule_end_v_k_isName_no : ∀ w ∈ v_k_isName_no, w ∈ v_k_readModule_end := fun _ h => List.mem_cons_of_mem _ (List.mem_append_right _ (List.mem_append_right _ (List.mem_append_left _ h)))
theorem gk_k_readModule_end : lk_k_readModule_end.all goodWord = true := by decide +kernel
theorem gd_v_k_readModule_end : ∀ w ∈ v_k_readModule_end, gdW w := fun w h => (List.mem_cons.mp h).elim (fun e => by rw [e]; exact good_of_word rfl) (fun h => (List.mem_append.mp h).elim (fun h => good_of_word (List.all_eq_true.mp gk_k_readModule_end w h)) (fun h => (List.mem_append.mp h).elim (gd_v_k_key_end w) (fun h => (List.mem_append.mp h).elim (gd_v_k_isName_no w) (fun h => nomatch h))))
theorem g_k_readModule_end_485_v_k_key_end : GoodIn v_k_readModule_end (wsV RX12 485 RX12 yX12_key v_k_key_end) := goodIn_app (fun w h => (fun h => (List.mem_cons.mp h).elim (fun e => by rw [e]; exact ⟨m_k_readModule_end_l485, good_of_word rfl⟩) (fun h => (List.mem_cons.mp h).elim (fun e => by rw [e]; exact ⟨m_k_readModule_end_j485, good_of_word rfl⟩) (fun h => (List.mem_cons.mp h).elim (fun e => by rw [e]; exact ⟨m_k_readModule_end_s485, good_of_word rfl⟩) (fun h => (List.mem_cons.mp h).elim (fun e => by rw [e]; exact ⟨m_k_readModule_end_z12, good_of_word rfl⟩) (fun h => nomatch h))))) h) (fun w h => ⟨j_k_readModule_end_v_k_key_end w h, gd_v_k_key_end w h⟩)
theorem g_k_readModule_end_400_v_k_isName_no : GoodIn v_k_readModule_end (wsV RX12 400 RX12 yX12_isName v_k_isName_no) := goodIn_app (fun w h => (fun h => (List.mem_cons.mp h).elim (fun e => by rw [e]; exact ⟨m_k_readModule_end_l400, good_of_word rfl⟩) (fun h => (List.mem_cons.mp h).elim (fun e => by rw [e]; exact ⟨m_k_readModule_end_j400, good_of_word rfl⟩) (fun h => (List.mem_cons.mp h).elim (fun e => by rw [e]; exact ⟨m_k_readModule_end_s400, good_of_word rfl⟩) (fun h => (List.mem_cons.mp h).elim (fun e => by rw [e]; exact ⟨m_k_readModule_end_z12, good_of_word rfl⟩) (fun h => nomatch h))))) h) (fun w h => ⟨j_k_readModule_end_v_k_isName_no w h, gd_v_k_isName_no w h⟩)
set_option maxHeartbeats 4000000 in
set_option maxRecDepth 100000 in
theorem k_readModule_end (l : Launch) (D : va_G) (cA : Nat → ClassId) (E : hp_N) (sz : Nat) (g : hp_M) (z : Int32) (h : Nat) (fs : List Value) (hL : fs.length = 137) (hh : g h = some (.inr (12, fs))) (h6 : fs[6]? = some (.int 0)) (h8 : fs[8]? = some (.int 0)) (h4 : fs[4]? = some (.int z))  : Met l yX12_readModule v_k_readModule_end ({ frames := 3, cells := 0, slots := 0, locals := 80 }) (hp_Pc D vwCl (hp_Tl cA) E sz g [.ref h]) (hp_Qv D vwCl (hp_Tl cA) sz g (fun u => ∃ fs1 : List Value, u = hp_up g h (.inr (12, fs1)) ∧ fs1.length = 137 ∧ fs1[6]? = some (.int 1) ∧ fs1[7]? = some (.int z) ∧ fs1[8]? = some (.int 0) ∧ ∀ k, (k ≠ 6 ∧ k ≠ 7 ∧ k ≠ 8) → fs1[k]? = fs[k]?)) 0 0 (hp_A g sz) := by
  refine hp_ofW (cc := cX12_readModule) (maxL := 2) (ret := none) (by decide) rfl (Nat.le_of_ble_eq_true rfl) ?_
  intro pp ee ss mm bb mt cd ls cx hsz hw hl
  have hl : lv_has ls 2 [(0, .ref h)] := hl
  refine lv_aload_n cx.1 cx.2.1 dX12_readModule_0 rfl (lv_at hl 0 rfl) ?_
  refine lv_iconst (v := 1) cx.1 cx.2.1 dX12_readModule_1 (by decide) ?_
  refine hp_callVv (As := [.int 1]) (rest := []) cx hw (k_key_end l D cA E _ g z 1 h fs hL hh h6 h8 h4) (cwV 1 cx.2.2.2.2.2.1 g_k_readModule_end_485_v_k_key_end rfl rfl rfl (by decide +kernel) ⟨Nat.le_of_ble_eq_true rfl, Nat.le_of_ble_eq_true rfl⟩) hh rfl rfl hl.1 rfl (Nat.le_of_ble_eq_true rfl) dX12_readModule_2 ⟨Nat.le_of_ble_eq_true rfl, Nat.le_of_ble_eq_true rfl⟩ (fun u1 H locs hp3 hw => ?_)
  obtain ⟨F4, eu1, lF4, vF4_0, vF4_1, vF4_2, kF4⟩ := hp3
  have f5 : u1 h = some (.inr (12, F4)) := (by rw [eu1]; exact hp_up_self _ _ _)
  refine lv_aload_n cx.1 cx.2.1 dX12_readModule_5 rfl (lv_at hl 0 rfl) ?_
  refine hp_callVi (As := []) (rest := []) cx hw (k_isName_no l D cA E _ u1 1 h F4 lF4 f5 vF4_0 (by decide)) (cwV 0 cx.2.2.2.2.2.1 g_k_readModule_end_400_v_k_isName_no rfl rfl rfl (by decide +kernel) ⟨Nat.le_of_ble_eq_true rfl, Nat.le_of_ble_eq_true rfl⟩) f5 rfl rfl hl.1 rfl (Nat.le_of_ble_eq_true rfl) dX12_readModule_6 ⟨Nat.le_of_ble_eq_true rfl, Nat.le_of_ble_eq_true rfl⟩ (fun r7 u6 H locs hp8 hw => ?_)
  obtain ⟨euu6, err7⟩ := hp8
  rw [euu6] at hw
  subst err7
  refine lv_if_ne (tgt := 13) cx.1 cx.2.1 dX12_readModule_9 (by decide) (fun c9_9 => ?_) (fun c9_9 => ?_)
  · exact absurd c9_9 (by decide)
  have hu : u1 = hp_up g h (.inr (12, F4)) := by
    funext b; by_cases hb : b = h
    · subst hb; rw [hp_up_self]; exact f5
    · rw [hp_up_ne _ _ hb]; rw [eu1, hp_up_ne _ _ hb]
  have hfk : ∀ k, (k ≠ 6 ∧ k ≠ 7 ∧ k ≠ 8) → F4[k]? = fs[k]? := by
    intro k hk
    rw [kF4 k (by omega)]
  exact hp_vret cx hw (⟨F4, hu, lF4, vF4_0, vF4_1, vF4_2, hfk⟩) dX12_readModule_12

def lk_k_readAll_end : List Cond := [Cond.methodLink RX12 394 yX12_isKey, Cond.instanceMethod yX12_isKey, Cond.selects RX12 yX12_isKey yX12_isKey, Cond.initialized RX12, Cond.methodLink RX12 476 yX12_readModule, Cond.instanceMethod yX12_readModule, Cond.selects RX12 yX12_readModule yX12_readModule, Cond.methodLink RX12 332 yX12_isFine, Cond.instanceMethod yX12_isFine, Cond.selects RX12 yX12_isFine yX12_isFine]
def v_k_readAll_end : List Cond := .code yX12_readAll cX12_readAll 1 none :: (lk_k_readAll_end ++ (v_k_isKey_no ++ (v_k_readModule_end ++ (v_k_isFine0 ++ []))))
theorem m_k_readAll_end_l394 : Cond.methodLink RX12 394 yX12_isKey ∈ v_k_readAll_end := List.mem_cons_of_mem _ (List.mem_append_left _ (List.mem_of_getElem? (i := 0) rfl))
theorem m_k_readAll_end_j394 : Cond.instanceMethod yX12_isKey ∈ v_k_readAll_end := List.mem_cons_of_mem _ (List.mem_append_left _ (List.mem_of_getElem? (i := 1) rfl))
theorem m_k_readAll_end_s394 : Cond.selects RX12 yX12_isKey yX12_isKey ∈ v_k_readAll_end := List.mem_cons_of_mem _ (List.mem_append_left _ (List.mem_of_getElem? (i := 2) rfl))
theorem m_k_readAll_end_z12 : Cond.initialized RX12 ∈ v_k_readAll_end := List.mem_cons_of_mem _ (List.mem_append_left _ (List.mem_of_getElem? (i := 3) rfl))
theorem m_k_readAll_end_l476 : Cond.methodLink RX12 476 yX12_readModule ∈ v_k_readAll_end := List.mem_cons_of_mem _ (List.mem_append_left _ (List.mem_of_getElem? (i := 4) rfl))
theorem m_k_readAll_end_j476 : Cond.instanceMethod yX12_readModule ∈ v_k_readAll_end := List.mem_cons_of_mem _ (List.mem_append_left _ (List.mem_of_getElem? (i := 5) rfl))
theorem m_k_readAll_end_s476 : Cond.selects RX12 yX12_readModule yX12_readModule ∈ v_k_readAll_end := List.mem_cons_of_mem _ (List.mem_append_left _ (List.mem_of_getElem? (i := 6) rfl))
theorem m_k_readAll_end_l332 : Cond.methodLink RX12 332 yX12_isFine ∈ v_k_readAll_end := List.mem_cons_of_mem _ (List.mem_append_left _ (List.mem_of_getElem? (i := 7) rfl))
theorem m_k_readAll_end_j332 : Cond.instanceMethod yX12_isFine ∈ v_k_readAll_end := List.mem_cons_of_mem _ (List.mem_append_left _ (List.mem_of_getElem? (i := 8) rfl))
theorem m_k_readAll_end_s332 : Cond.selects RX12 yX12_isFine yX12_isFine ∈ v_k_readAll_end := List.mem_cons_of_mem _ (List.mem_append_left _ (List.mem_of_getElem? (i := 9) rfl))
theorem j_k_readAll_end_v_k_isKey_no : ∀ w ∈ v_k_isKey_no, w ∈ v_k_readAll_end := fun _ h => List.mem_cons_of_mem _ (List.mem_append_right _ (List.mem_append_left _ h))
theorem j_k_readAll_end_v_k_readModule_end : ∀ w ∈ v_k_readModule_end, w ∈ v_k_readAll_end := fun _ h => List.mem_cons_of_mem _ (List.mem_append_right _ (List.mem_append_right _ (List.mem_append_left _ h)))
theorem j_k_readAll_end_v_k_isFine0 : ∀ w ∈ v_k_isFine0, w ∈ v_k_readAll_end := fun _ h => List.mem_cons_of_mem _ (List.mem_append_right _ (List.mem_append_right _ (List.mem_append_right _ (List.mem_append_left _ h))))
theorem gk_k_readAll_end : lk_k_readAll_end.all goodWord = true := by decide +kernel
theorem gd_v_k_readAll_end : ∀ w ∈ v_k_readAll_end, gdW w := fun w h => (List.mem_cons.mp h).elim (fun e => by rw [e]; exact good_of_word rfl) (fun h => (List.mem_append.mp h).elim (fun h => good_of_word (List.all_eq_true.mp gk_k_readAll_end w h)) (fun h => (List.mem_append.mp h).elim (gd_v_k_isKey_no w) (fun h => (List.mem_append.mp h).elim (gd_v_k_readModule_end w) (fun h => (List.mem_append.mp h).elim (gd_v_k_isFine0 w) (fun h => nomatch h)))))
theorem g_k_readAll_end_394_v_k_isKey_no : GoodIn v_k_readAll_end (wsV RX12 394 RX12 yX12_isKey v_k_isKey_no) := goodIn_app (fun w h => (fun h => (List.mem_cons.mp h).elim (fun e => by rw [e]; exact ⟨m_k_readAll_end_l394, good_of_word rfl⟩) (fun h => (List.mem_cons.mp h).elim (fun e => by rw [e]; exact ⟨m_k_readAll_end_j394, good_of_word rfl⟩) (fun h => (List.mem_cons.mp h).elim (fun e => by rw [e]; exact ⟨m_k_readAll_end_s394, good_of_word rfl⟩) (fun h => (List.mem_cons.mp h).elim (fun e => by rw [e]; exact ⟨m_k_readAll_end_z12, good_of_word rfl⟩) (fun h => nomatch h))))) h) (fun w h => ⟨j_k_readAll_end_v_k_isKey_no w h, gd_v_k_isKey_no w h⟩)
theorem g_k_readAll_end_476_v_k_readModule_end : GoodIn v_k_readAll_end (wsV RX12 476 RX12 yX12_readModule v_k_readModule_end) := goodIn_app (fun w h => (fun h => (List.mem_cons.mp h).elim (fun e => by rw [e]; exact ⟨m_k_readAll_end_l476, good_of_word rfl⟩) (fun h => (List.mem_cons.mp h).elim (fun e => by rw [e]; exact ⟨m_k_readAll_end_j476, good_of_word rfl⟩) (fun h => (List.mem_cons.mp h).elim (fun e => by rw [e]; exact ⟨m_k_readAll_end_s476, good_of_word rfl⟩) (fun h => (List.mem_cons.mp h).elim (fun e => by rw [e]; exact ⟨m_k_readAll_end_z12, good_of_word rfl⟩) (fun h => nomatch h))))) h) (fun w h => ⟨j_k_readAll_end_v_k_readModule_end w h, gd_v_k_readModule_end w h⟩)
theorem g_k_readAll_end_332_v_k_isFine0 : GoodIn v_k_readAll_end (wsV RX12 332 RX12 yX12_isFine v_k_isFine0) := goodIn_app (fun w h => (fun h => (List.mem_cons.mp h).elim (fun e => by rw [e]; exact ⟨m_k_readAll_end_l332, good_of_word rfl⟩) (fun h => (List.mem_cons.mp h).elim (fun e => by rw [e]; exact ⟨m_k_readAll_end_j332, good_of_word rfl⟩) (fun h => (List.mem_cons.mp h).elim (fun e => by rw [e]; exact ⟨m_k_readAll_end_s332, good_of_word rfl⟩) (fun h => (List.mem_cons.mp h).elim (fun e => by rw [e]; exact ⟨m_k_readAll_end_z12, good_of_word rfl⟩) (fun h => nomatch h))))) h) (fun w h => ⟨j_k_readAll_end_v_k_isFine0 w h, gd_v_k_isFine0 w h⟩)
set_option maxHeartbeats 4000000 in
set_option maxRecDepth 100000 in
theorem k_readAll_end (l : Launch) (D : va_G) (cA : Nat → ClassId) (E : hp_N) (sz : Nat) (g : hp_M) (z : Int32) (h : Nat) (fs : List Value) (hL : fs.length = 137) (hh : g h = some (.inr (12, fs))) (h6 : fs[6]? = some (.int 0)) (h8 : fs[8]? = some (.int 0)) (h4 : fs[4]? = some (.int z))  : Met l yX12_readAll v_k_readAll_end ({ frames := 4, cells := 0, slots := 0, locals := 110 }) (hp_Pc D vwCl (hp_Tl cA) E sz g [.ref h]) (hp_Qv D vwCl (hp_Tl cA) sz g (fun u => ∃ fs1 : List Value, u = hp_up g h (.inr (12, fs1)) ∧ fs1.length = 137 ∧ fs1[6]? = some (.int 1) ∧ fs1[7]? = some (.int z) ∧ fs1[8]? = some (.int 0) ∧ ∀ k, (k ≠ 6 ∧ k ≠ 7 ∧ k ≠ 8) → fs1[k]? = fs[k]?)) 0 0 (hp_A g sz) := by
  refine hp_ofW (cc := cX12_readAll) (maxL := 1) (ret := none) (by decide) rfl (Nat.le_of_ble_eq_true rfl) ?_
  intro pp ee ss mm bb mt cd ls cx hsz hw hl
  have hl : lv_has ls 1 [(0, .ref h)] := hl
  refine lv_aload_n cx.1 cx.2.1 dX12_readAll_0 rfl (lv_at hl 0 rfl) ?_
  refine lv_iconst (v := 0) cx.1 cx.2.1 dX12_readAll_1 (by decide) ?_
  refine hp_callVi (As := [.int 0]) (rest := []) cx hw (k_isKey_no l D cA E _ g 0 0 h fs hL hh h6 h8 (by decide)) (cwV 1 cx.2.2.2.2.2.1 g_k_readAll_end_394_v_k_isKey_no rfl rfl rfl (by decide +kernel) ⟨Nat.le_of_ble_eq_true rfl, Nat.le_of_ble_eq_true rfl⟩) hh rfl rfl hl.1 rfl (Nat.le_of_ble_eq_true rfl) dX12_readAll_2 ⟨Nat.le_of_ble_eq_true rfl, Nat.le_of_ble_eq_true rfl⟩ (fun r2 u1 H locs hp3 hw => ?_)
  obtain ⟨euu1, err2⟩ := hp3
  rw [euu1] at hw
  subst err2
  refine lv_if_eq (tgt := 15) cx.1 cx.2.1 dX12_readAll_5 (by decide) (fun c5_4 => ?_) (fun c5_4 => ?_)
  rotate_left
  · exact absurd (by decide) c5_4
  refine lv_aload_n cx.1 cx.2.1 dX12_readAll_15 rfl (lv_at hl 0 rfl) ?_
  refine hp_callVv (As := []) (rest := []) cx hw (k_readModule_end l D cA E _ g z h fs hL hh h6 h8 h4) (cwV 0 cx.2.2.2.2.2.1 g_k_readAll_end_476_v_k_readModule_end rfl rfl rfl (by decide +kernel) ⟨Nat.le_of_ble_eq_true rfl, Nat.le_of_ble_eq_true rfl⟩) hh rfl rfl hl.1 rfl (Nat.le_of_ble_eq_true rfl) dX12_readAll_16 ⟨Nat.le_of_ble_eq_true rfl, Nat.le_of_ble_eq_true rfl⟩ (fun u5 H locs hp7 hw => ?_)
  obtain ⟨F8, eu5, lF8, vF8_0, vF8_1, vF8_2, kF8⟩ := hp7
  have f9 : u5 h = some (.inr (12, F8)) := (by rw [eu5]; exact hp_up_self _ _ _)
  refine lv_aload_n cx.1 cx.2.1 dX12_readAll_19 rfl (lv_at hl 0 rfl) ?_
  refine hp_callVi (As := []) (rest := []) cx hw (k_isFine0 l D cA E _ u5 1 h F8 lF8 f9 vF8_0 (by decide)) (cwV 0 cx.2.2.2.2.2.1 g_k_readAll_end_332_v_k_isFine0 rfl rfl rfl (by decide +kernel) ⟨Nat.le_of_ble_eq_true rfl, Nat.le_of_ble_eq_true rfl⟩) f9 rfl rfl hl.1 rfl (Nat.le_of_ble_eq_true rfl) dX12_readAll_20 ⟨Nat.le_of_ble_eq_true rfl, Nat.le_of_ble_eq_true rfl⟩ (fun r11 u10 H locs hp12 hw => ?_)
  obtain ⟨euu10, err11⟩ := hp12
  rw [euu10] at hw
  subst err11
  refine lv_if_eq (tgt := 33) cx.1 cx.2.1 dX12_readAll_23 (by decide) (fun c23_13 => ?_) (fun c23_13 => ?_)
  rotate_left
  · exact absurd (by decide) c23_13
  have hu : u5 = hp_up g h (.inr (12, F8)) := by
    funext b; by_cases hb : b = h
    · subst hb; rw [hp_up_self]; exact f9
    · rw [hp_up_ne _ _ hb]; rw [eu5, hp_up_ne _ _ hb]
  have hfk : ∀ k, (k ≠ 6 ∧ k ≠ 7 ∧ k ≠ 8) → F8[k]? = fs[k]? := by
    intro k hk
    rw [kF8 k (by omega)]
  exact hp_vret cx hw (⟨F8, hu, lF8, vF8_0, vF8_1, vF8_2, hfk⟩) dX12_readAll_33
