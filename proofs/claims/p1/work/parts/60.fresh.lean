/-- a new object, as its constructor leaves it -/
def fr_House (cA : Nat → ClassId) (g : hp_M) (h : Nat) : Prop := ∃ a : Nat → Nat, g h = some (.inr (11, [.ref (a 0), .int 0, .ref (a 2), .ref (a 3), .ref (a 4), .ref (a 5), .ref (a 6), .ref (a 7), .ref (a 8), .ref (a 9), .int 0, .int 0])) ∧ g (a 0) = some (.inl (cA 0, 3000, .inl (fun _ => 0))) ∧ ∃ (wa pa pl ra sa ma : Nat → Nat) (m0 : Nat), g (a 2) = some (.inr (10, [.ref (wa 0), .ref (wa 1), .ref (wa 2), .ref (wa 3), .int 0, .int 0, .int 0, .int 0, .int 0, .int 0, .long 0])) ∧ g (wa 1) = some (.inr (6, [.ref (wa 11), .int 0])) ∧ g (wa 11) = some (.inl (cA 2, 192, .inr (.inl (fun _ => 0)))) ∧ g (wa 2) = some (.inr (6, [.ref (wa 12), .int 0])) ∧ wa 1 ≠ wa 2 ∧ g (a 3) = some (.inr (3, [.ref (pa 0), .ref (pa 1), .ref (pa 2), .ref (pa 3), .ref (pa 4), .ref (pa 5), .ref (pa 6), .ref (pa 7), .ref (pa 8), .ref (pa 9), .int 0, .int 0, .int 0, .int 0])) ∧ g (a 4) = some (.inr (2, [.ref (a 3), .ref (pl 1), .int 0, .ref (pl 3), .ref (pl 4), .ref (pl 5), .ref (pl 6), .ref (pl 7), .ref (pl 8), .ref (pl 9), .int 0, .ref (pl 11), .int 0, .ref (pl 13), .int 0, .ref (pl 15)])) ∧ g (a 5) = some (.inr (4, [.ref (a 2), .ref (a 4), .ref (a 3), .ref (ra 3), .ref (ra 4), .ref (ra 5), .int 0, .ref m0, .ref m0, .int 0, .int 0, .int 0, .int (-1)])) ∧ g (a 6) = some (.inr (8, [.ref (a 4), .ref (sa 1), .int 0, .int 0, .int 0])) ∧ g (a 7) = some (.inr (1, [.ref (a 4), .ref (a 3), .ref (ma 2), .ref (ma 3), .ref (ma 4), .ref (ma 5), .ref (ma 6), .ref (ma 7), .int 0, .int 0, .int 0, .int 0, .int 0, .int 0, .int 0, .int 0, .int 0, .int 0, .ref (ma 18), .int 0]))

def lk_f_fault : List Cond := [Cond.fieldLink RX11 41 "WardenHouse" "reader" "LWardenHouse$Reader;", Cond.fieldLink RX11 118 "WardenHouse$Reader" "faultPlace" "I", Cond.fieldLink RX11 115 "WardenHouse$Reader" "faultKind" "I"]
def v_f_fault : List Cond := .code yX11_fault cX11_fault 2 (some .int) :: (lk_f_fault ++ (wsX110 ++ (wsX40 ++ [])))
theorem m_f_fault_f41 : Cond.fieldLink RX11 41 "WardenHouse" "reader" "LWardenHouse$Reader;" ∈ v_f_fault := List.mem_cons_of_mem _ (List.mem_append_left _ (List.mem_of_getElem? (i := 0) rfl))
theorem m_f_fault_f118 : Cond.fieldLink RX11 118 "WardenHouse$Reader" "faultPlace" "I" ∈ v_f_fault := List.mem_cons_of_mem _ (List.mem_append_left _ (List.mem_of_getElem? (i := 1) rfl))
theorem m_f_fault_f115 : Cond.fieldLink RX11 115 "WardenHouse$Reader" "faultKind" "I" ∈ v_f_fault := List.mem_cons_of_mem _ (List.mem_append_left _ (List.mem_of_getElem? (i := 2) rfl))
theorem i_f_fault_X11 : ∀ w ∈ wsX110, w ∈ v_f_fault := fun _ h => List.mem_cons_of_mem _ (List.mem_append_right _ (List.mem_append_left _ h))
theorem i_f_fault_X4 : ∀ w ∈ wsX40, w ∈ v_f_fault := fun _ h => List.mem_cons_of_mem _ (List.mem_append_right _ (List.mem_append_right _ (List.mem_append_left _ h)))
theorem gk_f_fault : lk_f_fault.all goodWord = true := by decide +kernel
theorem gd_v_f_fault : ∀ w ∈ v_f_fault, gdW w := fun w h => (List.mem_cons.mp h).elim (fun e => by rw [e]; exact good_of_word rfl) (fun h => (List.mem_append.mp h).elim (fun h => good_of_word (List.all_eq_true.mp gk_f_fault w h)) (fun h => (List.mem_append.mp h).elim (gd_wsX110 w) (fun h => (List.mem_append.mp h).elim (gd_wsX40 w) (fun h => nomatch h))))
set_option maxHeartbeats 4000000 in
set_option maxRecDepth 100000 in
theorem f_fault (l : Launch) (D : va_G) (cA : Nat → ClassId) (E : hp_N) (sz : Nat) (g : hp_M) (h : Nat) (hf : fr_House cA g h) (x : Int32) : Met l yX11_fault v_f_fault ({ frames := 0, cells := 0, slots := 0, locals := 0 }) (hp_Pc D vwCl (hp_Tl cA) E sz g [.ref h, .int x]) (hp_Qi D vwCl (hp_Tl cA) sz g (fun r _ => r = if x = 0 then 0 else -1)) 0 0 (hp_A g sz) := by
  refine hp_ofW (cc := cX11_fault) (maxL := 2) (ret := (some .int)) (by decide) rfl (Nat.le_of_ble_eq_true rfl) ?_
  intro pp ee ss mm bb mt cd ls cx hsz hw hl
  have hl : lv_has ls 2 [(0, .ref h), (1, .int x)] := hl
  obtain ⟨a, hh, ht, wa, pa, pl, ra, sa, ma, m0, hwd, hf1, hf11, hf2, hne, hpo, hpl, hre, hsu, hma⟩ := hf
  refine lv_iload_n cx.1 cx.2.1 dX11_fault_0 rfl (lv_at hl 1 rfl) ?_
  refine lv_if_ne (tgt := 12) cx.1 cx.2.1 dX11_fault_1 (by decide) (fun c1_1 => ?_) (fun c1_1 => ?_)
  · skip
    refine lv_iload_n cx.1 cx.2.1 dX11_fault_12 rfl (lv_at hl 1 rfl) ?_
    refine lv_iconst (v := 1) cx.1 cx.2.1 dX11_fault_13 (by decide) ?_
    refine lv_icmp_ne (tgt := 27) cx.1 cx.2.1 dX11_fault_14 (by decide) (fun c14_2 => ?_) (fun c14_2 => ?_)
    · skip
      refine lv_iconst (v := (-1)) cx.1 cx.2.1 dX11_fault_27 (by decide) ?_
      exact hp_iret cx hw (by rw [if_neg c1_1]) dX11_fault_28
    · skip
      refine lv_aload_n cx.1 cx.2.1 dX11_fault_17 rfl (lv_at hl 0 rfl) ?_
      refine hp_get (C := RX11) (T := TX11) (N := 12) (ci := 11) cx hw i_f_fault_X11 rfl hh 5 (by decide) m_f_fault_f41 (v := .ref (a 5)) rfl dX11_fault_18 ?_
      refine hp_get (C := RX4) (T := TX4) (N := 13) (ci := 4) cx hw i_f_fault_X4 rfl hre 12 (by decide) m_f_fault_f118 (v := .int (-1)) rfl dX11_fault_21 ?_
      refine lv_goto (tgt := 28) cx.1 cx.2.1 dX11_fault_24 (by decide) ?_
      exact hp_iret cx hw (by rw [if_neg c1_1]) dX11_fault_28
  · skip
    refine lv_aload_n cx.1 cx.2.1 dX11_fault_4 rfl (lv_at hl 0 rfl) ?_
    refine hp_get (C := RX11) (T := TX11) (N := 12) (ci := 11) cx hw i_f_fault_X11 rfl hh 5 (by decide) m_f_fault_f41 (v := .ref (a 5)) rfl dX11_fault_5 ?_
    refine hp_get (C := RX4) (T := TX4) (N := 13) (ci := 4) cx hw i_f_fault_X4 rfl hre 11 (by decide) m_f_fault_f115 (v := .int 0) rfl dX11_fault_8 ?_
    exact hp_iret cx hw (by rw [if_pos c1_1]) dX11_fault_11

def lk_f_count : List Cond := [Cond.fieldLink RX11 81 "WardenHouse" "planned" "Z", Cond.fieldLink RX11 73 "WardenHouse" "fed" "I"]
def v_f_count : List Cond := .code yX11_count cX11_count 2 (some .int) :: (lk_f_count ++ (wsX110 ++ []))
theorem m_f_count_f81 : Cond.fieldLink RX11 81 "WardenHouse" "planned" "Z" ∈ v_f_count := List.mem_cons_of_mem _ (List.mem_append_left _ (List.mem_of_getElem? (i := 0) rfl))
theorem m_f_count_f73 : Cond.fieldLink RX11 73 "WardenHouse" "fed" "I" ∈ v_f_count := List.mem_cons_of_mem _ (List.mem_append_left _ (List.mem_of_getElem? (i := 1) rfl))
theorem i_f_count_X11 : ∀ w ∈ wsX110, w ∈ v_f_count := fun _ h => List.mem_cons_of_mem _ (List.mem_append_right _ (List.mem_append_left _ h))
theorem gk_f_count : lk_f_count.all goodWord = true := by decide +kernel
theorem gd_v_f_count : ∀ w ∈ v_f_count, gdW w := fun w h => (List.mem_cons.mp h).elim (fun e => by rw [e]; exact good_of_word rfl) (fun h => (List.mem_append.mp h).elim (fun h => good_of_word (List.all_eq_true.mp gk_f_count w h)) (fun h => (List.mem_append.mp h).elim (gd_wsX110 w) (fun h => nomatch h)))
set_option maxHeartbeats 4000000 in
set_option maxRecDepth 100000 in
theorem f_count (l : Launch) (D : va_G) (cA : Nat → ClassId) (E : hp_N) (sz : Nat) (g : hp_M) (h : Nat) (hf : fr_House cA g h) (x : Int32) : Met l yX11_count v_f_count ({ frames := 0, cells := 0, slots := 0, locals := 0 }) (hp_Pc D vwCl (hp_Tl cA) E sz g [.ref h, .int x]) (hp_Qi D vwCl (hp_Tl cA) sz g (fun r _ => r = if ¬ x < 0 ∧ x ≤ 9 then 0 else -1)) 0 0 (hp_A g sz) := by
  refine hp_ofW (cc := cX11_count) (maxL := 2) (ret := (some .int)) (by decide) rfl (Nat.le_of_ble_eq_true rfl) ?_
  intro pp ee ss mm bb mt cd ls cx hsz hw hl
  have hl : lv_has ls 2 [(0, .ref h), (1, .int x)] := hl
  obtain ⟨a, hh, ht, wa, pa, pl, ra, sa, ma, m0, hwd, hf1, hf11, hf2, hne, hpo, hpl, hre, hsu, hma⟩ := hf
  refine lv_iload_n cx.1 cx.2.1 dX11_count_0 rfl (lv_at hl 1 rfl) ?_
  refine lv_if_lt (tgt := 10) cx.1 cx.2.1 dX11_count_1 (by decide) (fun c1_1 => ?_) (fun c1_1 => ?_)
  · skip
    refine lv_iconst (v := (-1)) cx.1 cx.2.1 dX11_count_10 (by decide) ?_
    exact hp_iret cx hw (by rw [if_neg (fun q => q.1 c1_1)]) dX11_count_11
  · skip
    refine lv_iload_n cx.1 cx.2.1 dX11_count_4 rfl (lv_at hl 1 rfl) ?_
    refine lv_bipush (v := 9) cx.1 cx.2.1 dX11_count_5 (by decide) ?_
    refine lv_icmp_le (tgt := 12) cx.1 cx.2.1 dX11_count_7 (by decide) (fun c7_2 => ?_) (fun c7_2 => ?_)
    · skip
      refine lv_iload_n cx.1 cx.2.1 dX11_count_12 rfl (lv_at hl 1 rfl) ?_
      refine lv_bipush (v := 9) cx.1 cx.2.1 dX11_count_13 (by decide) ?_
      refine lv_icmp_ne (tgt := 23) cx.1 cx.2.1 dX11_count_15 (by decide) (fun c15_3 => ?_) (fun c15_3 => ?_)
      · skip
        refine lv_aload_n cx.1 cx.2.1 dX11_count_23 rfl (lv_at hl 0 rfl) ?_
        refine hp_get (C := RX11) (T := TX11) (N := 12) (ci := 11) cx hw i_f_count_X11 rfl hh 10 (by decide) m_f_count_f81 (v := .int 0) rfl dX11_count_24 ?_
        refine lv_if_eq (tgt := 41) cx.1 cx.2.1 dX11_count_27 (by decide) (fun c27_4 => ?_) (fun c27_4 => ?_)
        rotate_left
        · exact absurd (by decide) c27_4
        refine lv_iconst (v := 0) cx.1 cx.2.1 dX11_count_41 (by decide) ?_
        exact hp_iret cx hw (by rw [if_pos ⟨c1_1, c7_2⟩]) dX11_count_42
      · skip
        refine lv_aload_n cx.1 cx.2.1 dX11_count_18 rfl (lv_at hl 0 rfl) ?_
        refine hp_get (C := RX11) (T := TX11) (N := 12) (ci := 11) cx hw i_f_count_X11 rfl hh 1 (by decide) m_f_count_f73 (v := .int 0) rfl dX11_count_19 ?_
        exact hp_iret cx hw (by rw [if_pos ⟨c1_1, c7_2⟩]) dX11_count_22
    · skip
      refine lv_iconst (v := (-1)) cx.1 cx.2.1 dX11_count_10 (by decide) ?_
      exact hp_iret cx hw (by rw [if_neg (fun q => c7_2 q.2)]) dX11_count_11

def lk_f_hasUnit : List Cond := [Cond.fieldLink RX11 81 "WardenHouse" "planned" "Z"]
def v_f_hasUnit : List Cond := .code yX11_hasUnit cX11_hasUnit 2 (some .boolean) :: (lk_f_hasUnit ++ (wsX110 ++ []))
theorem m_f_hasUnit_f81 : Cond.fieldLink RX11 81 "WardenHouse" "planned" "Z" ∈ v_f_hasUnit := List.mem_cons_of_mem _ (List.mem_append_left _ (List.mem_of_getElem? (i := 0) rfl))
theorem i_f_hasUnit_X11 : ∀ w ∈ wsX110, w ∈ v_f_hasUnit := fun _ h => List.mem_cons_of_mem _ (List.mem_append_right _ (List.mem_append_left _ h))
theorem gk_f_hasUnit : lk_f_hasUnit.all goodWord = true := by decide +kernel
theorem gd_v_f_hasUnit : ∀ w ∈ v_f_hasUnit, gdW w := fun w h => (List.mem_cons.mp h).elim (fun e => by rw [e]; exact good_of_word rfl) (fun h => (List.mem_append.mp h).elim (fun h => good_of_word (List.all_eq_true.mp gk_f_hasUnit w h)) (fun h => (List.mem_append.mp h).elim (gd_wsX110 w) (fun h => nomatch h)))
set_option maxHeartbeats 4000000 in
set_option maxRecDepth 100000 in
theorem f_hasUnit (l : Launch) (D : va_G) (cA : Nat → ClassId) (E : hp_N) (sz : Nat) (g : hp_M) (h : Nat) (hf : fr_House cA g h) (x : Int32) : Met l yX11_hasUnit v_f_hasUnit ({ frames := 0, cells := 0, slots := 0, locals := 0 }) (hp_Pc D vwCl (hp_Tl cA) E sz g [.ref h, .int x]) (hp_Qi D vwCl (hp_Tl cA) sz g (fun r u => u = g ∧ r = 0)) 0 0 (hp_A g sz) := by
  refine hp_ofW (cc := cX11_hasUnit) (maxL := 2) (ret := (some .boolean)) (by decide) rfl (Nat.le_of_ble_eq_true rfl) ?_
  intro pp ee ss mm bb mt cd ls cx hsz hw hl
  have hl : lv_has ls 2 [(0, .ref h), (1, .int x)] := hl
  obtain ⟨a, hh, ht, wa, pa, pl, ra, sa, ma, m0, hwd, hf1, hf11, hf2, hne, hpo, hpl, hre, hsu, hma⟩ := hf
  refine lv_aload_n cx.1 cx.2.1 dX11_hasUnit_0 rfl (lv_at hl 0 rfl) ?_
  refine hp_get (C := RX11) (T := TX11) (N := 12) (ci := 11) cx hw i_f_hasUnit_X11 rfl hh 10 (by decide) m_f_hasUnit_f81 (v := .int 0) rfl dX11_hasUnit_1 ?_
  refine lv_if_eq (tgt := 26) cx.1 cx.2.1 dX11_hasUnit_4 (by decide) (fun c4_1 => ?_) (fun c4_1 => ?_)
  rotate_left
  · exact absurd (by decide) c4_1
  refine lv_iconst (v := 0) cx.1 cx.2.1 dX11_hasUnit_26 (by decide) ?_
  exact hp_zret cx hw (⟨rfl, rfl⟩) (by decide) dX11_hasUnit_27

def lk_f_unit : List Cond := [Cond.methodLink RX11 125 yX11_hasUnit, Cond.instanceMethod yX11_hasUnit, Cond.selects RX11 yX11_hasUnit yX11_hasUnit, Cond.initialized RX11]
def v_f_unit : List Cond := .code yX11_unit cX11_unit 3 (some .int) :: (lk_f_unit ++ (v_f_hasUnit ++ []))
theorem m_f_unit_l125 : Cond.methodLink RX11 125 yX11_hasUnit ∈ v_f_unit := List.mem_cons_of_mem _ (List.mem_append_left _ (List.mem_of_getElem? (i := 0) rfl))
theorem m_f_unit_j125 : Cond.instanceMethod yX11_hasUnit ∈ v_f_unit := List.mem_cons_of_mem _ (List.mem_append_left _ (List.mem_of_getElem? (i := 1) rfl))
theorem m_f_unit_s125 : Cond.selects RX11 yX11_hasUnit yX11_hasUnit ∈ v_f_unit := List.mem_cons_of_mem _ (List.mem_append_left _ (List.mem_of_getElem? (i := 2) rfl))
theorem m_f_unit_z11 : Cond.initialized RX11 ∈ v_f_unit := List.mem_cons_of_mem _ (List.mem_append_left _ (List.mem_of_getElem? (i := 3) rfl))
theorem j_f_unit_v_f_hasUnit : ∀ w ∈ v_f_hasUnit, w ∈ v_f_unit := fun _ h => List.mem_cons_of_mem _ (List.mem_append_right _ (List.mem_append_left _ h))
theorem gk_f_unit : lk_f_unit.all goodWord = true := by decide +kernel
theorem gd_v_f_unit : ∀ w ∈ v_f_unit, gdW w := fun w h => (List.mem_cons.mp h).elim (fun e => by rw [e]; exact good_of_word rfl) (fun h => (List.mem_append.mp h).elim (fun h => good_of_word (List.all_eq_true.mp gk_f_unit w h)) (fun h => (List.mem_append.mp h).elim (gd_v_f_hasUnit w) (fun h => nomatch h)))
theorem g_f_unit_125_v_f_hasUnit : GoodIn v_f_unit (wsV RX11 125 RX11 yX11_hasUnit v_f_hasUnit) := goodIn_app (fun w h => (fun h => (List.mem_cons.mp h).elim (fun e => by rw [e]; exact ⟨m_f_unit_l125, good_of_word rfl⟩) (fun h => (List.mem_cons.mp h).elim (fun e => by rw [e]; exact ⟨m_f_unit_j125, good_of_word rfl⟩) (fun h => (List.mem_cons.mp h).elim (fun e => by rw [e]; exact ⟨m_f_unit_s125, good_of_word rfl⟩) (fun h => (List.mem_cons.mp h).elim (fun e => by rw [e]; exact ⟨m_f_unit_z11, good_of_word rfl⟩) (fun h => nomatch h))))) h) (fun w h => ⟨j_f_unit_v_f_hasUnit w h, gd_v_f_hasUnit w h⟩)
set_option maxHeartbeats 4000000 in
set_option maxRecDepth 100000 in
theorem f_unit (l : Launch) (D : va_G) (cA : Nat → ClassId) (E : hp_N) (sz : Nat) (g : hp_M) (h : Nat) (hf : fr_House cA g h) (x y : Int32) : Met l yX11_unit v_f_unit ({ frames := 1, cells := 0, slots := 0, locals := 21 }) (hp_Pc D vwCl (hp_Tl cA) E sz g [.ref h, .int x, .int y]) (hp_Qi D vwCl (hp_Tl cA) sz g (fun r _ => r = -1)) 0 0 (hp_A g sz) := by
  refine hp_ofW (cc := cX11_unit) (maxL := 3) (ret := (some .int)) (by decide) rfl (Nat.le_of_ble_eq_true rfl) ?_
  intro pp ee ss mm bb mt cd ls cx hsz hw hl
  have hl : lv_has ls 3 [(0, .ref h), (1, .int x), (2, .int y)] := hl
  obtain ⟨a, hh, ht, wa, pa, pl, ra, sa, ma, m0, hwd, hf1, hf11, hf2, hne, hpo, hpl, hre, hsu, hma⟩ := id hf
  refine lv_aload_n cx.1 cx.2.1 dX11_unit_0 rfl (lv_at hl 0 rfl) ?_
  refine lv_iload_n cx.1 cx.2.1 dX11_unit_1 rfl (lv_at hl 1 rfl) ?_
  refine hp_callVi (As := [.int x]) (rest := []) cx hw (f_hasUnit l D cA E _ g h hf x) (cwV 1 cx.2.2.2.2.2.1 g_f_unit_125_v_f_hasUnit rfl rfl rfl (by decide +kernel) ⟨Nat.le_of_ble_eq_true rfl, Nat.le_of_ble_eq_true rfl⟩) hh rfl rfl hl.1 rfl (Nat.le_of_ble_eq_true rfl) dX11_unit_2 ⟨Nat.le_of_ble_eq_true rfl, Nat.le_of_ble_eq_true rfl⟩ (fun r2 u1 H locs hp3 hw => ?_)
  obtain ⟨euu1, err2⟩ := hp3
  rw [euu1] at hw
  subst err2
  refine lv_if_eq (tgt := 23) cx.1 cx.2.1 dX11_unit_5 (by decide) (fun c5_4 => ?_) (fun c5_4 => ?_)
  rotate_left
  · exact absurd (by decide) c5_4
  refine lv_iconst (v := (-1)) cx.1 cx.2.1 dX11_unit_23 (by decide) ?_
  exact hp_iret cx hw (rfl) dX11_unit_24

def lk_f_code : List Cond := [Cond.methodLink RX11 125 yX11_hasUnit, Cond.instanceMethod yX11_hasUnit, Cond.selects RX11 yX11_hasUnit yX11_hasUnit, Cond.initialized RX11]
def v_f_code : List Cond := .code yX11_code cX11_code 6 (some .int) :: (lk_f_code ++ (v_f_hasUnit ++ []))
theorem m_f_code_l125 : Cond.methodLink RX11 125 yX11_hasUnit ∈ v_f_code := List.mem_cons_of_mem _ (List.mem_append_left _ (List.mem_of_getElem? (i := 0) rfl))
theorem m_f_code_j125 : Cond.instanceMethod yX11_hasUnit ∈ v_f_code := List.mem_cons_of_mem _ (List.mem_append_left _ (List.mem_of_getElem? (i := 1) rfl))
theorem m_f_code_s125 : Cond.selects RX11 yX11_hasUnit yX11_hasUnit ∈ v_f_code := List.mem_cons_of_mem _ (List.mem_append_left _ (List.mem_of_getElem? (i := 2) rfl))
theorem m_f_code_z11 : Cond.initialized RX11 ∈ v_f_code := List.mem_cons_of_mem _ (List.mem_append_left _ (List.mem_of_getElem? (i := 3) rfl))
theorem j_f_code_v_f_hasUnit : ∀ w ∈ v_f_hasUnit, w ∈ v_f_code := fun _ h => List.mem_cons_of_mem _ (List.mem_append_right _ (List.mem_append_left _ h))
theorem gk_f_code : lk_f_code.all goodWord = true := by decide +kernel
theorem gd_v_f_code : ∀ w ∈ v_f_code, gdW w := fun w h => (List.mem_cons.mp h).elim (fun e => by rw [e]; exact good_of_word rfl) (fun h => (List.mem_append.mp h).elim (fun h => good_of_word (List.all_eq_true.mp gk_f_code w h)) (fun h => (List.mem_append.mp h).elim (gd_v_f_hasUnit w) (fun h => nomatch h)))
theorem g_f_code_125_v_f_hasUnit : GoodIn v_f_code (wsV RX11 125 RX11 yX11_hasUnit v_f_hasUnit) := goodIn_app (fun w h => (fun h => (List.mem_cons.mp h).elim (fun e => by rw [e]; exact ⟨m_f_code_l125, good_of_word rfl⟩) (fun h => (List.mem_cons.mp h).elim (fun e => by rw [e]; exact ⟨m_f_code_j125, good_of_word rfl⟩) (fun h => (List.mem_cons.mp h).elim (fun e => by rw [e]; exact ⟨m_f_code_s125, good_of_word rfl⟩) (fun h => (List.mem_cons.mp h).elim (fun e => by rw [e]; exact ⟨m_f_code_z11, good_of_word rfl⟩) (fun h => nomatch h))))) h) (fun w h => ⟨j_f_code_v_f_hasUnit w h, gd_v_f_hasUnit w h⟩)
set_option maxHeartbeats 4000000 in
set_option maxRecDepth 100000 in
theorem f_code (l : Launch) (D : va_G) (cA : Nat → ClassId) (E : hp_N) (sz : Nat) (g : hp_M) (h : Nat) (hf : fr_House cA g h) (x y z : Int32) : Met l yX11_code v_f_code ({ frames := 1, cells := 0, slots := 0, locals := 21 }) (hp_Pc D vwCl (hp_Tl cA) E sz g [.ref h, .int x, .int y, .int z]) (hp_Qi D vwCl (hp_Tl cA) sz g (fun r _ => r = -1)) 0 0 (hp_A g sz) := by
  refine hp_ofW (cc := cX11_code) (maxL := 6) (ret := (some .int)) (by decide) rfl (Nat.le_of_ble_eq_true rfl) ?_
  intro pp ee ss mm bb mt cd ls cx hsz hw hl
  have hl : lv_has ls 6 [(0, .ref h), (1, .int x), (2, .int y), (3, .int z)] := hl
  obtain ⟨a, hh, ht, wa, pa, pl, ra, sa, ma, m0, hwd, hf1, hf11, hf2, hne, hpo, hpl, hre, hsu, hma⟩ := id hf
  refine lv_aload_n cx.1 cx.2.1 dX11_code_0 rfl (lv_at hl 0 rfl) ?_
  refine lv_iload_n cx.1 cx.2.1 dX11_code_1 rfl (lv_at hl 1 rfl) ?_
  refine hp_callVi (As := [.int x]) (rest := []) cx hw (f_hasUnit l D cA E _ g h hf x) (cwV 1 cx.2.2.2.2.2.1 g_f_code_125_v_f_hasUnit rfl rfl rfl (by decide +kernel) ⟨Nat.le_of_ble_eq_true rfl, Nat.le_of_ble_eq_true rfl⟩) hh rfl rfl hl.1 rfl (Nat.le_of_ble_eq_true rfl) dX11_code_2 ⟨Nat.le_of_ble_eq_true rfl, Nat.le_of_ble_eq_true rfl⟩ (fun r2 u1 H locs hp3 hw => ?_)
  obtain ⟨euu1, err2⟩ := hp3
  rw [euu1] at hw
  subst err2
  refine lv_if_ne (tgt := 10) cx.1 cx.2.1 dX11_code_5 (by decide) (fun c5_4 => ?_) (fun c5_4 => ?_)
  · exact absurd c5_4 (by decide)
  refine lv_iconst (v := (-1)) cx.1 cx.2.1 dX11_code_8 (by decide) ?_
  exact hp_iret cx hw (rfl) dX11_code_9

def lk_f_number : List Cond := [Cond.fieldLink RX11 81 "WardenHouse" "planned" "Z"]
def v_f_number : List Cond := .code yX11_number cX11_number 2 (some .int) :: (lk_f_number ++ (wsX110 ++ []))
theorem m_f_number_f81 : Cond.fieldLink RX11 81 "WardenHouse" "planned" "Z" ∈ v_f_number := List.mem_cons_of_mem _ (List.mem_append_left _ (List.mem_of_getElem? (i := 0) rfl))
theorem i_f_number_X11 : ∀ w ∈ wsX110, w ∈ v_f_number := fun _ h => List.mem_cons_of_mem _ (List.mem_append_right _ (List.mem_append_left _ h))
theorem gk_f_number : lk_f_number.all goodWord = true := by decide +kernel
theorem gd_v_f_number : ∀ w ∈ v_f_number, gdW w := fun w h => (List.mem_cons.mp h).elim (fun e => by rw [e]; exact good_of_word rfl) (fun h => (List.mem_append.mp h).elim (fun h => good_of_word (List.all_eq_true.mp gk_f_number w h)) (fun h => (List.mem_append.mp h).elim (gd_wsX110 w) (fun h => nomatch h)))
set_option maxHeartbeats 4000000 in
set_option maxRecDepth 100000 in
theorem f_number (l : Launch) (D : va_G) (cA : Nat → ClassId) (E : hp_N) (sz : Nat) (g : hp_M) (h : Nat) (hf : fr_House cA g h) (x : Int32) : Met l yX11_number v_f_number ({ frames := 0, cells := 0, slots := 0, locals := 0 }) (hp_Pc D vwCl (hp_Tl cA) E sz g [.ref h, .int x]) (hp_Qi D vwCl (hp_Tl cA) sz g (fun r _ => r = 0)) 0 0 (hp_A g sz) := by
  refine hp_ofW (cc := cX11_number) (maxL := 2) (ret := (some .int)) (by decide) rfl (Nat.le_of_ble_eq_true rfl) ?_
  intro pp ee ss mm bb mt cd ls cx hsz hw hl
  have hl : lv_has ls 2 [(0, .ref h), (1, .int x)] := hl
  obtain ⟨a, hh, ht, wa, pa, pl, ra, sa, ma, m0, hwd, hf1, hf11, hf2, hne, hpo, hpl, hre, hsu, hma⟩ := id hf
  refine lv_aload_n cx.1 cx.2.1 dX11_number_0 rfl (lv_at hl 0 rfl) ?_
  refine hp_get (C := RX11) (T := TX11) (N := 12) (ci := 11) cx hw i_f_number_X11 rfl hh 10 (by decide) m_f_number_f81 (v := .int 0) rfl dX11_number_1 ?_
  refine lv_if_eq (tgt := 18) cx.1 cx.2.1 dX11_number_4 (by decide) (fun c4_1 => ?_) (fun c4_1 => ?_)
  rotate_left
  · exact absurd (by decide) c4_1
  refine lv_iconst (v := 0) cx.1 cx.2.1 dX11_number_18 (by decide) ?_
  exact hp_iret cx hw (rfl) dX11_number_19

def lk_f_domain : List Cond := [Cond.fieldLink RX11 81 "WardenHouse" "planned" "Z"]
def v_f_domain : List Cond := .code yX11_domain cX11_domain 2 (some .int) :: (lk_f_domain ++ (wsX110 ++ []))
theorem m_f_domain_f81 : Cond.fieldLink RX11 81 "WardenHouse" "planned" "Z" ∈ v_f_domain := List.mem_cons_of_mem _ (List.mem_append_left _ (List.mem_of_getElem? (i := 0) rfl))
theorem i_f_domain_X11 : ∀ w ∈ wsX110, w ∈ v_f_domain := fun _ h => List.mem_cons_of_mem _ (List.mem_append_right _ (List.mem_append_left _ h))
theorem gk_f_domain : lk_f_domain.all goodWord = true := by decide +kernel
theorem gd_v_f_domain : ∀ w ∈ v_f_domain, gdW w := fun w h => (List.mem_cons.mp h).elim (fun e => by rw [e]; exact good_of_word rfl) (fun h => (List.mem_append.mp h).elim (fun h => good_of_word (List.all_eq_true.mp gk_f_domain w h)) (fun h => (List.mem_append.mp h).elim (gd_wsX110 w) (fun h => nomatch h)))
set_option maxHeartbeats 4000000 in
set_option maxRecDepth 100000 in
theorem f_domain (l : Launch) (D : va_G) (cA : Nat → ClassId) (E : hp_N) (sz : Nat) (g : hp_M) (h : Nat) (hf : fr_House cA g h) (x : Int32) : Met l yX11_domain v_f_domain ({ frames := 0, cells := 0, slots := 0, locals := 0 }) (hp_Pc D vwCl (hp_Tl cA) E sz g [.ref h, .int x]) (hp_Qi D vwCl (hp_Tl cA) sz g (fun r _ => r = -1)) 0 0 (hp_A g sz) := by
  refine hp_ofW (cc := cX11_domain) (maxL := 2) (ret := (some .int)) (by decide) rfl (Nat.le_of_ble_eq_true rfl) ?_
  intro pp ee ss mm bb mt cd ls cx hsz hw hl
  have hl : lv_has ls 2 [(0, .ref h), (1, .int x)] := hl
  obtain ⟨a, hh, ht, wa, pa, pl, ra, sa, ma, m0, hwd, hf1, hf11, hf2, hne, hpo, hpl, hre, hsu, hma⟩ := id hf
  refine lv_aload_n cx.1 cx.2.1 dX11_domain_0 rfl (lv_at hl 0 rfl) ?_
  refine hp_get (C := RX11) (T := TX11) (N := 12) (ci := 11) cx hw i_f_domain_X11 rfl hh 10 (by decide) m_f_domain_f81 (v := .int 0) rfl dX11_domain_1 ?_
  refine lv_if_eq (tgt := 33) cx.1 cx.2.1 dX11_domain_4 (by decide) (fun c4_1 => ?_) (fun c4_1 => ?_)
  rotate_left
  · exact absurd (by decide) c4_1
  refine lv_iconst (v := (-1)) cx.1 cx.2.1 dX11_domain_33 (by decide) ?_
  exact hp_iret cx hw (rfl) dX11_domain_34

def lk_f_has : List Cond := [Cond.fieldLink RX11 81 "WardenHouse" "planned" "Z"]
def v_f_has : List Cond := .code yX11_has cX11_has 3 (some .int) :: (lk_f_has ++ (wsX110 ++ []))
theorem m_f_has_f81 : Cond.fieldLink RX11 81 "WardenHouse" "planned" "Z" ∈ v_f_has := List.mem_cons_of_mem _ (List.mem_append_left _ (List.mem_of_getElem? (i := 0) rfl))
theorem i_f_has_X11 : ∀ w ∈ wsX110, w ∈ v_f_has := fun _ h => List.mem_cons_of_mem _ (List.mem_append_right _ (List.mem_append_left _ h))
theorem gk_f_has : lk_f_has.all goodWord = true := by decide +kernel
theorem gd_v_f_has : ∀ w ∈ v_f_has, gdW w := fun w h => (List.mem_cons.mp h).elim (fun e => by rw [e]; exact good_of_word rfl) (fun h => (List.mem_append.mp h).elim (fun h => good_of_word (List.all_eq_true.mp gk_f_has w h)) (fun h => (List.mem_append.mp h).elim (gd_wsX110 w) (fun h => nomatch h)))
set_option maxHeartbeats 4000000 in
set_option maxRecDepth 100000 in
theorem f_has (l : Launch) (D : va_G) (cA : Nat → ClassId) (E : hp_N) (sz : Nat) (g : hp_M) (h : Nat) (hf : fr_House cA g h) (x y : Int32) : Met l yX11_has v_f_has ({ frames := 0, cells := 0, slots := 0, locals := 0 }) (hp_Pc D vwCl (hp_Tl cA) E sz g [.ref h, .int x, .int y]) (hp_Qi D vwCl (hp_Tl cA) sz g (fun r _ => r = -1)) 0 0 (hp_A g sz) := by
  refine hp_ofW (cc := cX11_has) (maxL := 3) (ret := (some .int)) (by decide) rfl (Nat.le_of_ble_eq_true rfl) ?_
  intro pp ee ss mm bb mt cd ls cx hsz hw hl
  have hl : lv_has ls 3 [(0, .ref h), (1, .int x), (2, .int y)] := hl
  obtain ⟨a, hh, ht, wa, pa, pl, ra, sa, ma, m0, hwd, hf1, hf11, hf2, hne, hpo, hpl, hre, hsu, hma⟩ := id hf
  refine lv_aload_n cx.1 cx.2.1 dX11_has_0 rfl (lv_at hl 0 rfl) ?_
  refine hp_get (C := RX11) (T := TX11) (N := 12) (ci := 11) cx hw i_f_has_X11 rfl hh 10 (by decide) m_f_has_f81 (v := .int 0) rfl dX11_has_1 ?_
  refine lv_if_eq (tgt := 43) cx.1 cx.2.1 dX11_has_4 (by decide) (fun c4_1 => ?_) (fun c4_1 => ?_)
  rotate_left
  · exact absurd (by decide) c4_1
  refine lv_iconst (v := (-1)) cx.1 cx.2.1 dX11_has_43 (by decide) ?_
  exact hp_iret cx hw (rfl) dX11_has_44

def lk_f_may : List Cond := [Cond.fieldLink RX11 184 "WardenHouse" "asking" "Z"]
def v_f_may : List Cond := .code yX11_may cX11_may 2 (some .int) :: (lk_f_may ++ (wsX110 ++ []))
theorem m_f_may_f184 : Cond.fieldLink RX11 184 "WardenHouse" "asking" "Z" ∈ v_f_may := List.mem_cons_of_mem _ (List.mem_append_left _ (List.mem_of_getElem? (i := 0) rfl))
theorem i_f_may_X11 : ∀ w ∈ wsX110, w ∈ v_f_may := fun _ h => List.mem_cons_of_mem _ (List.mem_append_right _ (List.mem_append_left _ h))
theorem gk_f_may : lk_f_may.all goodWord = true := by decide +kernel
theorem gd_v_f_may : ∀ w ∈ v_f_may, gdW w := fun w h => (List.mem_cons.mp h).elim (fun e => by rw [e]; exact good_of_word rfl) (fun h => (List.mem_append.mp h).elim (fun h => good_of_word (List.all_eq_true.mp gk_f_may w h)) (fun h => (List.mem_append.mp h).elim (gd_wsX110 w) (fun h => nomatch h)))
set_option maxHeartbeats 4000000 in
set_option maxRecDepth 100000 in
theorem f_may (l : Launch) (D : va_G) (cA : Nat → ClassId) (E : hp_N) (sz : Nat) (g : hp_M) (h : Nat) (hf : fr_House cA g h) (x : Int32) : Met l yX11_may v_f_may ({ frames := 0, cells := 0, slots := 0, locals := 0 }) (hp_Pc D vwCl (hp_Tl cA) E sz g [.ref h, .int x]) (hp_Qi D vwCl (hp_Tl cA) sz g (fun r _ => r = -1)) 0 0 (hp_A g sz) := by
  refine hp_ofW (cc := cX11_may) (maxL := 2) (ret := (some .int)) (by decide) rfl (Nat.le_of_ble_eq_true rfl) ?_
  intro pp ee ss mm bb mt cd ls cx hsz hw hl
  have hl : lv_has ls 2 [(0, .ref h), (1, .int x)] := hl
  obtain ⟨a, hh, ht, wa, pa, pl, ra, sa, ma, m0, hwd, hf1, hf11, hf2, hne, hpo, hpl, hre, hsu, hma⟩ := id hf
  refine lv_aload_n cx.1 cx.2.1 dX11_may_0 rfl (lv_at hl 0 rfl) ?_
  refine hp_get (C := RX11) (T := TX11) (N := 12) (ci := 11) cx hw i_f_may_X11 rfl hh 11 (by decide) m_f_may_f184 (v := .int 0) rfl dX11_may_1 ?_
  refine lv_if_eq (tgt := 15) cx.1 cx.2.1 dX11_may_4 (by decide) (fun c4_1 => ?_) (fun c4_1 => ?_)
  rotate_left
  · exact absurd (by decide) c4_1
  refine lv_iconst (v := (-1)) cx.1 cx.2.1 dX11_may_15 (by decide) ?_
  exact hp_iret cx hw (rfl) dX11_may_16

def lk_f_result : List Cond := [Cond.fieldLink RX11 59 "WardenHouse" "machine" "LWardenHouse$Machine;", Cond.fieldLink RX11 234 "WardenHouse$Machine" "ran" "Z"]
def v_f_result : List Cond := .code yX11_result cX11_result 2 (some .int) :: (lk_f_result ++ (wsX110 ++ (wsX10 ++ [])))
theorem m_f_result_f59 : Cond.fieldLink RX11 59 "WardenHouse" "machine" "LWardenHouse$Machine;" ∈ v_f_result := List.mem_cons_of_mem _ (List.mem_append_left _ (List.mem_of_getElem? (i := 0) rfl))
theorem m_f_result_f234 : Cond.fieldLink RX11 234 "WardenHouse$Machine" "ran" "Z" ∈ v_f_result := List.mem_cons_of_mem _ (List.mem_append_left _ (List.mem_of_getElem? (i := 1) rfl))
theorem i_f_result_X11 : ∀ w ∈ wsX110, w ∈ v_f_result := fun _ h => List.mem_cons_of_mem _ (List.mem_append_right _ (List.mem_append_left _ h))
theorem i_f_result_X1 : ∀ w ∈ wsX10, w ∈ v_f_result := fun _ h => List.mem_cons_of_mem _ (List.mem_append_right _ (List.mem_append_right _ (List.mem_append_left _ h)))
theorem gk_f_result : lk_f_result.all goodWord = true := by decide +kernel
theorem gd_v_f_result : ∀ w ∈ v_f_result, gdW w := fun w h => (List.mem_cons.mp h).elim (fun e => by rw [e]; exact good_of_word rfl) (fun h => (List.mem_append.mp h).elim (fun h => good_of_word (List.all_eq_true.mp gk_f_result w h)) (fun h => (List.mem_append.mp h).elim (gd_wsX110 w) (fun h => (List.mem_append.mp h).elim (gd_wsX10 w) (fun h => nomatch h))))
set_option maxHeartbeats 4000000 in
set_option maxRecDepth 100000 in
theorem f_result (l : Launch) (D : va_G) (cA : Nat → ClassId) (E : hp_N) (sz : Nat) (g : hp_M) (h : Nat) (hf : fr_House cA g h) (x : Int32) : Met l yX11_result v_f_result ({ frames := 0, cells := 0, slots := 0, locals := 0 }) (hp_Pc D vwCl (hp_Tl cA) E sz g [.ref h, .int x]) (hp_Qi D vwCl (hp_Tl cA) sz g (fun r _ => r = -1)) 0 0 (hp_A g sz) := by
  refine hp_ofW (cc := cX11_result) (maxL := 2) (ret := (some .int)) (by decide) rfl (Nat.le_of_ble_eq_true rfl) ?_
  intro pp ee ss mm bb mt cd ls cx hsz hw hl
  have hl : lv_has ls 2 [(0, .ref h), (1, .int x)] := hl
  obtain ⟨a, hh, ht, wa, pa, pl, ra, sa, ma, m0, hwd, hf1, hf11, hf2, hne, hpo, hpl, hre, hsu, hma⟩ := id hf
  refine lv_aload_n cx.1 cx.2.1 dX11_result_0 rfl (lv_at hl 0 rfl) ?_
  refine hp_get (C := RX11) (T := TX11) (N := 12) (ci := 11) cx hw i_f_result_X11 rfl hh 7 (by decide) m_f_result_f59 (v := .ref (a 7)) rfl dX11_result_1 ?_
  refine hp_get (C := RX1) (T := TX1) (N := 20) (ci := 1) cx hw i_f_result_X1 rfl hma 19 (by decide) m_f_result_f234 (v := .int 0) rfl dX11_result_4 ?_
  refine lv_if_eq (tgt := 21) cx.1 cx.2.1 dX11_result_7 (by decide) (fun c7_1 => ?_) (fun c7_1 => ?_)
  rotate_left
  · exact absurd (by decide) c7_1
  refine lv_iconst (v := (-1)) cx.1 cx.2.1 dX11_result_21 (by decide) ?_
  exact hp_iret cx hw (rfl) dX11_result_22

def lk_f_event : List Cond := [Cond.fieldLink RX11 59 "WardenHouse" "machine" "LWardenHouse$Machine;", Cond.fieldLink RX11 234 "WardenHouse$Machine" "ran" "Z"]
def v_f_event : List Cond := .code yX11_event cX11_event 3 (some .int) :: (lk_f_event ++ (wsX110 ++ (wsX10 ++ [])))
theorem m_f_event_f59 : Cond.fieldLink RX11 59 "WardenHouse" "machine" "LWardenHouse$Machine;" ∈ v_f_event := List.mem_cons_of_mem _ (List.mem_append_left _ (List.mem_of_getElem? (i := 0) rfl))
theorem m_f_event_f234 : Cond.fieldLink RX11 234 "WardenHouse$Machine" "ran" "Z" ∈ v_f_event := List.mem_cons_of_mem _ (List.mem_append_left _ (List.mem_of_getElem? (i := 1) rfl))
theorem i_f_event_X11 : ∀ w ∈ wsX110, w ∈ v_f_event := fun _ h => List.mem_cons_of_mem _ (List.mem_append_right _ (List.mem_append_left _ h))
theorem i_f_event_X1 : ∀ w ∈ wsX10, w ∈ v_f_event := fun _ h => List.mem_cons_of_mem _ (List.mem_append_right _ (List.mem_append_right _ (List.mem_append_left _ h)))
theorem gk_f_event : lk_f_event.all goodWord = true := by decide +kernel
theorem gd_v_f_event : ∀ w ∈ v_f_event, gdW w := fun w h => (List.mem_cons.mp h).elim (fun e => by rw [e]; exact good_of_word rfl) (fun h => (List.mem_append.mp h).elim (fun h => good_of_word (List.all_eq_true.mp gk_f_event w h)) (fun h => (List.mem_append.mp h).elim (gd_wsX110 w) (fun h => (List.mem_append.mp h).elim (gd_wsX10 w) (fun h => nomatch h))))
set_option maxHeartbeats 4000000 in
set_option maxRecDepth 100000 in
theorem f_event (l : Launch) (D : va_G) (cA : Nat → ClassId) (E : hp_N) (sz : Nat) (g : hp_M) (h : Nat) (hf : fr_House cA g h) (x y : Int32) : Met l yX11_event v_f_event ({ frames := 0, cells := 0, slots := 0, locals := 0 }) (hp_Pc D vwCl (hp_Tl cA) E sz g [.ref h, .int x, .int y]) (hp_Qi D vwCl (hp_Tl cA) sz g (fun r _ => r = -1)) 0 0 (hp_A g sz) := by
  refine hp_ofW (cc := cX11_event) (maxL := 3) (ret := (some .int)) (by decide) rfl (Nat.le_of_ble_eq_true rfl) ?_
  intro pp ee ss mm bb mt cd ls cx hsz hw hl
  have hl : lv_has ls 3 [(0, .ref h), (1, .int x), (2, .int y)] := hl
  obtain ⟨a, hh, ht, wa, pa, pl, ra, sa, ma, m0, hwd, hf1, hf11, hf2, hne, hpo, hpl, hre, hsu, hma⟩ := id hf
  refine lv_aload_n cx.1 cx.2.1 dX11_event_0 rfl (lv_at hl 0 rfl) ?_
  refine hp_get (C := RX11) (T := TX11) (N := 12) (ci := 11) cx hw i_f_event_X11 rfl hh 7 (by decide) m_f_event_f59 (v := .ref (a 7)) rfl dX11_event_1 ?_
  refine hp_get (C := RX1) (T := TX1) (N := 20) (ci := 1) cx hw i_f_event_X1 rfl hma 19 (by decide) m_f_event_f234 (v := .int 0) rfl dX11_event_4 ?_
  refine lv_if_eq (tgt := 22) cx.1 cx.2.1 dX11_event_7 (by decide) (fun c7_1 => ?_) (fun c7_1 => ?_)
  rotate_left
  · exact absurd (by decide) c7_1
  refine lv_iconst (v := (-1)) cx.1 cx.2.1 dX11_event_22 (by decide) ?_
  exact hp_iret cx hw (rfl) dX11_event_23

def lk_f_thread : List Cond := [Cond.fieldLink RX11 59 "WardenHouse" "machine" "LWardenHouse$Machine;", Cond.fieldLink RX11 234 "WardenHouse$Machine" "ran" "Z"]
def v_f_thread : List Cond := .code yX11_thread cX11_thread 3 (some .int) :: (lk_f_thread ++ (wsX110 ++ (wsX10 ++ [])))
theorem m_f_thread_f59 : Cond.fieldLink RX11 59 "WardenHouse" "machine" "LWardenHouse$Machine;" ∈ v_f_thread := List.mem_cons_of_mem _ (List.mem_append_left _ (List.mem_of_getElem? (i := 0) rfl))
theorem m_f_thread_f234 : Cond.fieldLink RX11 234 "WardenHouse$Machine" "ran" "Z" ∈ v_f_thread := List.mem_cons_of_mem _ (List.mem_append_left _ (List.mem_of_getElem? (i := 1) rfl))
theorem i_f_thread_X11 : ∀ w ∈ wsX110, w ∈ v_f_thread := fun _ h => List.mem_cons_of_mem _ (List.mem_append_right _ (List.mem_append_left _ h))
theorem i_f_thread_X1 : ∀ w ∈ wsX10, w ∈ v_f_thread := fun _ h => List.mem_cons_of_mem _ (List.mem_append_right _ (List.mem_append_right _ (List.mem_append_left _ h)))
theorem gk_f_thread : lk_f_thread.all goodWord = true := by decide +kernel
theorem gd_v_f_thread : ∀ w ∈ v_f_thread, gdW w := fun w h => (List.mem_cons.mp h).elim (fun e => by rw [e]; exact good_of_word rfl) (fun h => (List.mem_append.mp h).elim (fun h => good_of_word (List.all_eq_true.mp gk_f_thread w h)) (fun h => (List.mem_append.mp h).elim (gd_wsX110 w) (fun h => (List.mem_append.mp h).elim (gd_wsX10 w) (fun h => nomatch h))))
set_option maxHeartbeats 4000000 in
set_option maxRecDepth 100000 in
theorem f_thread (l : Launch) (D : va_G) (cA : Nat → ClassId) (E : hp_N) (sz : Nat) (g : hp_M) (h : Nat) (hf : fr_House cA g h) (x y : Int32) : Met l yX11_thread v_f_thread ({ frames := 0, cells := 0, slots := 0, locals := 0 }) (hp_Pc D vwCl (hp_Tl cA) E sz g [.ref h, .int x, .int y]) (hp_Qi D vwCl (hp_Tl cA) sz g (fun r _ => r = -1)) 0 0 (hp_A g sz) := by
  refine hp_ofW (cc := cX11_thread) (maxL := 3) (ret := (some .int)) (by decide) rfl (Nat.le_of_ble_eq_true rfl) ?_
  intro pp ee ss mm bb mt cd ls cx hsz hw hl
  have hl : lv_has ls 3 [(0, .ref h), (1, .int x), (2, .int y)] := hl
  obtain ⟨a, hh, ht, wa, pa, pl, ra, sa, ma, m0, hwd, hf1, hf11, hf2, hne, hpo, hpl, hre, hsu, hma⟩ := id hf
  refine lv_aload_n cx.1 cx.2.1 dX11_thread_0 rfl (lv_at hl 0 rfl) ?_
  refine hp_get (C := RX11) (T := TX11) (N := 12) (ci := 11) cx hw i_f_thread_X11 rfl hh 7 (by decide) m_f_thread_f59 (v := .ref (a 7)) rfl dX11_thread_1 ?_
  refine hp_get (C := RX1) (T := TX1) (N := 20) (ci := 1) cx hw i_f_thread_X1 rfl hma 19 (by decide) m_f_thread_f234 (v := .int 0) rfl dX11_thread_4 ?_
  refine lv_if_eq (tgt := 22) cx.1 cx.2.1 dX11_thread_7 (by decide) (fun c7_1 => ?_) (fun c7_1 => ?_)
  rotate_left
  · exact absurd (by decide) c7_1
  refine lv_iconst (v := (-1)) cx.1 cx.2.1 dX11_thread_22 (by decide) ?_
  exact hp_iret cx hw (rfl) dX11_thread_23

def lk_f_context : List Cond := [Cond.fieldLink RX11 59 "WardenHouse" "machine" "LWardenHouse$Machine;", Cond.fieldLink RX11 234 "WardenHouse$Machine" "ran" "Z"]
def v_f_context : List Cond := .code yX11_context cX11_context 3 (some .int) :: (lk_f_context ++ (wsX110 ++ (wsX10 ++ [])))
theorem m_f_context_f59 : Cond.fieldLink RX11 59 "WardenHouse" "machine" "LWardenHouse$Machine;" ∈ v_f_context := List.mem_cons_of_mem _ (List.mem_append_left _ (List.mem_of_getElem? (i := 0) rfl))
theorem m_f_context_f234 : Cond.fieldLink RX11 234 "WardenHouse$Machine" "ran" "Z" ∈ v_f_context := List.mem_cons_of_mem _ (List.mem_append_left _ (List.mem_of_getElem? (i := 1) rfl))
theorem i_f_context_X11 : ∀ w ∈ wsX110, w ∈ v_f_context := fun _ h => List.mem_cons_of_mem _ (List.mem_append_right _ (List.mem_append_left _ h))
theorem i_f_context_X1 : ∀ w ∈ wsX10, w ∈ v_f_context := fun _ h => List.mem_cons_of_mem _ (List.mem_append_right _ (List.mem_append_right _ (List.mem_append_left _ h)))
theorem gk_f_context : lk_f_context.all goodWord = true := by decide +kernel
theorem gd_v_f_context : ∀ w ∈ v_f_context, gdW w := fun w h => (List.mem_cons.mp h).elim (fun e => by rw [e]; exact good_of_word rfl) (fun h => (List.mem_append.mp h).elim (fun h => good_of_word (List.all_eq_true.mp gk_f_context w h)) (fun h => (List.mem_append.mp h).elim (gd_wsX110 w) (fun h => (List.mem_append.mp h).elim (gd_wsX10 w) (fun h => nomatch h))))
set_option maxHeartbeats 4000000 in
set_option maxRecDepth 100000 in
theorem f_context (l : Launch) (D : va_G) (cA : Nat → ClassId) (E : hp_N) (sz : Nat) (g : hp_M) (h : Nat) (hf : fr_House cA g h) (x y : Int32) : Met l yX11_context v_f_context ({ frames := 0, cells := 0, slots := 0, locals := 0 }) (hp_Pc D vwCl (hp_Tl cA) E sz g [.ref h, .int x, .int y]) (hp_Qi D vwCl (hp_Tl cA) sz g (fun r _ => r = -1)) 0 0 (hp_A g sz) := by
  refine hp_ofW (cc := cX11_context) (maxL := 3) (ret := (some .int)) (by decide) rfl (Nat.le_of_ble_eq_true rfl) ?_
  intro pp ee ss mm bb mt cd ls cx hsz hw hl
  have hl : lv_has ls 3 [(0, .ref h), (1, .int x), (2, .int y)] := hl
  obtain ⟨a, hh, ht, wa, pa, pl, ra, sa, ma, m0, hwd, hf1, hf11, hf2, hne, hpo, hpl, hre, hsu, hma⟩ := id hf
  refine lv_aload_n cx.1 cx.2.1 dX11_context_0 rfl (lv_at hl 0 rfl) ?_
  refine hp_get (C := RX11) (T := TX11) (N := 12) (ci := 11) cx hw i_f_context_X11 rfl hh 7 (by decide) m_f_context_f59 (v := .ref (a 7)) rfl dX11_context_1 ?_
  refine hp_get (C := RX1) (T := TX1) (N := 20) (ci := 1) cx hw i_f_context_X1 rfl hma 19 (by decide) m_f_context_f234 (v := .int 0) rfl dX11_context_4 ?_
  refine lv_if_eq (tgt := 22) cx.1 cx.2.1 dX11_context_7 (by decide) (fun c7_1 => ?_) (fun c7_1 => ?_)
  rotate_left
  · exact absurd (by decide) c7_1
  refine lv_iconst (v := (-1)) cx.1 cx.2.1 dX11_context_22 (by decide) ?_
  exact hp_iret cx hw (rfl) dX11_context_23

def lk_f_end : List Cond := [Cond.fieldLink RX11 73 "WardenHouse" "fed" "I"]
def v_f_end : List Cond := .code yX11_end cX11_end 2 (some .boolean) :: (lk_f_end ++ (wsX110 ++ []))
theorem m_f_end_f73 : Cond.fieldLink RX11 73 "WardenHouse" "fed" "I" ∈ v_f_end := List.mem_cons_of_mem _ (List.mem_append_left _ (List.mem_of_getElem? (i := 0) rfl))
theorem i_f_end_X11 : ∀ w ∈ wsX110, w ∈ v_f_end := fun _ h => List.mem_cons_of_mem _ (List.mem_append_right _ (List.mem_append_left _ h))
theorem gk_f_end : lk_f_end.all goodWord = true := by decide +kernel
theorem gd_v_f_end : ∀ w ∈ v_f_end, gdW w := fun w h => (List.mem_cons.mp h).elim (fun e => by rw [e]; exact good_of_word rfl) (fun h => (List.mem_append.mp h).elim (fun h => good_of_word (List.all_eq_true.mp gk_f_end w h)) (fun h => (List.mem_append.mp h).elim (gd_wsX110 w) (fun h => nomatch h)))
set_option maxHeartbeats 4000000 in
set_option maxRecDepth 100000 in
theorem f_end (l : Launch) (D : va_G) (cA : Nat → ClassId) (E : hp_N) (sz : Nat) (g : hp_M) (h : Nat) (hf : fr_House cA g h) (x : Int32) : Met l yX11_end v_f_end ({ frames := 0, cells := 0, slots := 0, locals := 0 }) (hp_Pc D vwCl (hp_Tl cA) E sz g [.ref h, .int x]) (hp_Qi D vwCl (hp_Tl cA) sz g (fun r _ => r = if x = 0 then 1 else 0)) 0 0 (hp_A g sz) := by
  refine hp_ofW (cc := cX11_end) (maxL := 2) (ret := (some .boolean)) (by decide) rfl (Nat.le_of_ble_eq_true rfl) ?_
  intro pp ee ss mm bb mt cd ls cx hsz hw hl
  have hl : lv_has ls 2 [(0, .ref h), (1, .int x)] := hl
  obtain ⟨a, hh, ht, wa, pa, pl, ra, sa, ma, m0, hwd, hf1, hf11, hf2, hne, hpo, hpl, hre, hsu, hma⟩ := id hf
  refine lv_iload_n cx.1 cx.2.1 dX11_end_0 rfl (lv_at hl 1 rfl) ?_
  refine lv_if_lt (tgt := 12) cx.1 cx.2.1 dX11_end_1 (by decide) (fun c1_1 => ?_) (fun c1_1 => ?_)
  · skip
    refine lv_iconst (v := 0) cx.1 cx.2.1 dX11_end_12 (by decide) ?_
    exact hp_zret cx hw (by rw [if_neg (fun q => absurd c1_1 (by rw [q]; decide))]) (by decide) dX11_end_13
  · skip
    refine lv_iload_n cx.1 cx.2.1 dX11_end_4 rfl (lv_at hl 1 rfl) ?_
    refine lv_aload_n cx.1 cx.2.1 dX11_end_5 rfl (lv_at hl 0 rfl) ?_
    refine hp_get (C := RX11) (T := TX11) (N := 12) (ci := 11) cx hw i_f_end_X11 rfl hh 1 (by decide) m_f_end_f73 (v := .int 0) rfl dX11_end_6 ?_
    refine lv_icmp_le (tgt := 14) cx.1 cx.2.1 dX11_end_9 (by decide) (fun c9_2 => ?_) (fun c9_2 => ?_)
    · skip
      refine lv_aload_n cx.1 cx.2.1 dX11_end_14 rfl (lv_at hl 0 rfl) ?_
      refine lv_iload_n cx.1 cx.2.1 dX11_end_15 rfl (lv_at hl 1 rfl) ?_
      refine hp_put (C := RX11) (T := TX11) (N := 12) (ci := 11) (fs' := [.ref (a 0), .int x, .ref (a 2), .ref (a 3), .ref (a 4), .ref (a 5), .ref (a 6), .ref (a 7), .ref (a 8), .ref (a 9), .int 0, .int 0]) cx hw i_f_end_X11 tyX11_ok nmX11 rfl hh 1 (by decide) m_f_end_f73 rfl  rfl rfl (Nat.le_of_ble_eq_true rfl) rfl dX11_end_16 (fun g3 H locs eg3 hw => ?_)
      have f4 : g3 h = some (.inr (11, [.ref (a 0), .int x, .ref (a 2), .ref (a 3), .ref (a 4), .ref (a 5), .ref (a 6), .ref (a 7), .ref (a 8), .ref (a 9), .int 0, .int 0])) := (by rw [eg3]; exact hp_up_self _ _ _)
      refine lv_iconst (v := 1) cx.1 cx.2.1 dX11_end_19 (by decide) ?_
      exact hp_zret cx hw (by rw [if_pos (Int32.le_antisymm c9_2 (Int32.not_lt.mp c1_1))]) (by decide) dX11_end_20
    · skip
      refine lv_iconst (v := 0) cx.1 cx.2.1 dX11_end_12 (by decide) ?_
      exact hp_zret cx hw (by rw [if_neg (fun q => c9_2 (by rw [q]; decide))]) (by decide) dX11_end_13

def lk_k_putBytes : List Cond := [Cond.fieldLink RX11 73 "WardenHouse" "fed" "I", Cond.fieldLink RX11 9 "WardenHouse" "tape" "[B"]
def v_k_putBytes : List Cond := .code yX11_putBytes cX11_putBytes 3 none :: (lk_k_putBytes ++ (wsX110 ++ []))
theorem m_k_putBytes_f73 : Cond.fieldLink RX11 73 "WardenHouse" "fed" "I" ∈ v_k_putBytes := List.mem_cons_of_mem _ (List.mem_append_left _ (List.mem_of_getElem? (i := 0) rfl))
theorem m_k_putBytes_f9 : Cond.fieldLink RX11 9 "WardenHouse" "tape" "[B" ∈ v_k_putBytes := List.mem_cons_of_mem _ (List.mem_append_left _ (List.mem_of_getElem? (i := 1) rfl))
theorem i_k_putBytes_X11 : ∀ w ∈ wsX110, w ∈ v_k_putBytes := fun _ h => List.mem_cons_of_mem _ (List.mem_append_right _ (List.mem_append_left _ h))
theorem gk_k_putBytes : lk_k_putBytes.all goodWord = true := by decide +kernel
theorem gd_v_k_putBytes : ∀ w ∈ v_k_putBytes, gdW w := fun w h => (List.mem_cons.mp h).elim (fun e => by rw [e]; exact good_of_word rfl) (fun h => (List.mem_append.mp h).elim (fun h => good_of_word (List.all_eq_true.mp gk_k_putBytes w h)) (fun h => (List.mem_append.mp h).elim (gd_wsX110 w) (fun h => nomatch h)))
set_option maxHeartbeats 4000000 in
set_option maxRecDepth 100000 in
/-- putBytes(x), where there is room -/
theorem k_putBytes (l : Launch) (D : va_G) (cA : Nat → ClassId) (E : hp_N) (sz : Nat) (g : hp_M) (h : Nat) (a : Nat → Nat) (k : Nat) (f : Nat → Int32) (hk : k + 4 ≤ 3000) (hh : g h = some (.inr (11, [.ref (a 0), .int (nI k), .ref (a 2), .ref (a 3), .ref (a 4), .ref (a 5), .ref (a 6), .ref (a 7), .ref (a 8), .ref (a 9), .int 0, .int 0]))) (ht : g (a 0) = some (.inl (cA 0, 3000, .inl f))) (x : Int32) : Met l yX11_putBytes v_k_putBytes ({ frames := 0, cells := 0, slots := 0, locals := 0 }) (hp_Pc D vwCl (hp_Tl cA) E sz g [.ref h, .int x]) (hp_Qv D vwCl (hp_Tl cA) sz g (fun u => ∃ f2 : Nat → Int32, u h = some (.inr (11, [.ref (a 0), .int (nI (k + 4)), .ref (a 2), .ref (a 3), .ref (a 4), .ref (a 5), .ref (a 6), .ref (a 7), .ref (a 8), .ref (a 9), .int 0, .int 0])) ∧ u (a 0) = some (.inl (cA 0, 3000, .inl f2)))) 0 0 (hp_A g sz) := by
  refine hp_ofW (cc := cX11_putBytes) (maxL := 3) (ret := none) (by decide) rfl (Nat.le_of_ble_eq_true rfl) ?_
  intro pp ee ss mm bb mt cd ls cx hsz hw hl
  have hl : lv_has ls 3 [(0, .ref h), (1, .int x)] := hl
  refine lv_bipush (v := 24) cx.1 cx.2.1 dX11_putBytes_0 (by decide) ?_
  refine lv_istore_n (lv' := [(2, .int 24), (0, .ref h), (1, .int x)]) cx.1 cx.2.1 dX11_putBytes_2 rfl hl (by decide) rfl (fun ls hl => ?_)
  refine lv_iload_n cx.1 cx.2.1 dX11_putBytes_3 rfl (lv_at hl 0 rfl) ?_
  refine lv_if_lt (tgt := 46) cx.1 cx.2.1 dX11_putBytes_4 (by decide) (fun c4_1 => ?_) (fun c4_1 => ?_)
  · exact absurd c4_1 (by decide)
  refine lv_aload_n cx.1 cx.2.1 dX11_putBytes_7 rfl (lv_at hl 1 rfl) ?_
  refine hp_get (C := RX11) (T := TX11) (N := 12) (ci := 11) cx hw i_k_putBytes_X11 rfl hh 1 (by decide) m_k_putBytes_f73 (v := .int (nI k)) rfl dX11_putBytes_8 ?_
  refine lv_sipush (v := 3000) cx.1 cx.2.1 dX11_putBytes_11 (by decide) ?_
  refine lv_icmp_ge (tgt := 46) cx.1 cx.2.1 dX11_putBytes_14 (by decide) (fun c14_2 => ?_) (fun c14_2 => ?_)
  · exact absurd c14_2 (by rw [show (3000 : Int32) = nI 3000 from by decide]; exact nI_ge (by omega) (by decide))
  refine lv_aload_n cx.1 cx.2.1 dX11_putBytes_17 rfl (lv_at hl 1 rfl) ?_
  refine hp_get (C := RX11) (T := TX11) (N := 12) (ci := 11) cx hw i_k_putBytes_X11 rfl hh 0 (by decide) m_k_putBytes_f9 (v := .ref (a 0)) rfl dX11_putBytes_18 ?_
  refine lv_aload_n cx.1 cx.2.1 dX11_putBytes_21 rfl (lv_at hl 1 rfl) ?_
  refine hp_get (C := RX11) (T := TX11) (N := 12) (ci := 11) cx hw i_k_putBytes_X11 rfl hh 1 (by decide) m_k_putBytes_f73 (v := .int (nI k)) rfl dX11_putBytes_22 ?_
  refine lv_iload_n cx.1 cx.2.1 dX11_putBytes_25 rfl (lv_at hl 2 rfl) ?_
  refine lv_iload_n cx.1 cx.2.1 dX11_putBytes_26 rfl (lv_at hl 0 rfl) ?_
  refine lv_iushr (v := ((x.toUInt32 >>> ((24 : Int32).toUInt32 &&& Int32.toUInt32 31)).toInt32)) cx.1 cx.2.1 dX11_putBytes_27 rfl ?_
  refine lv_i2b (v := (((x.toUInt32 >>> ((24 : Int32).toUInt32 &&& Int32.toUInt32 31)).toInt32).toInt8.toInt32)) cx.1 cx.2.1 dX11_putBytes_28 rfl ?_
  refine hp_bast cx hw 0 ht rfl (vp_in_nI (by omega) (by decide)) dX11_putBytes_29 (fun g3 H locs eg3 hw => ?_)
  have f4 : g3 (a 0) = some (.inl (cA 0, 3000, .inl (upd f (nI k).toNatClampNeg (vp_nar .byte (((x.toUInt32 >>> ((24 : Int32).toUInt32 &&& Int32.toUInt32 31)).toInt32).toInt8.toInt32))))) := (by rw [eg3]; exact hp_up_self _ _ _)
  generalize (upd f (nI k).toNatClampNeg (vp_nar .byte (((x.toUInt32 >>> ((24 : Int32).toUInt32 &&& Int32.toUInt32 31)).toInt32).toInt8.toInt32))) = fa5 at f4
  refine lv_aload_n cx.1 cx.2.1 dX11_putBytes_30 rfl (lv_at hl 1 rfl) ?_
  refine lv_dup cx.1 cx.2.1 dX11_putBytes_31 rfl ?_
  have f6 : g3 h = some (.inr (11, [.ref (a 0), .int (nI k), .ref (a 2), .ref (a 3), .ref (a 4), .ref (a 5), .ref (a 6), .ref (a 7), .ref (a 8), .ref (a 9), .int 0, .int 0])) := (by rw [eg3]; exact (hp_up_ne _ _ (hp_neOA hh ht)).trans hh)
  refine hp_get (C := RX11) (T := TX11) (N := 12) (ci := 11) cx hw i_k_putBytes_X11 rfl f6 1 (by decide) m_k_putBytes_f73 (v := .int (nI k)) rfl dX11_putBytes_32 ?_
  refine lv_iconst (v := 1) cx.1 cx.2.1 dX11_putBytes_35 (by decide) ?_
  refine lv_iadd cx.1 cx.2.1 dX11_putBytes_36 ?_
  refine lv_topi (fun z7 ez7 => ?_)
  obtain rfl : z7 = nI (k + 1) := ez7.trans (nI_1 _)
  refine hp_put (C := RX11) (T := TX11) (N := 12) (ci := 11) (fs' := [.ref (a 0), .int (nI (k + 1)), .ref (a 2), .ref (a 3), .ref (a 4), .ref (a 5), .ref (a 6), .ref (a 7), .ref (a 8), .ref (a 9), .int 0, .int 0]) cx hw i_k_putBytes_X11 tyX11_ok nmX11 rfl f6 1 (by decide) m_k_putBytes_f73 rfl  rfl rfl (Nat.le_of_ble_eq_true rfl) rfl dX11_putBytes_37 (fun g8 H locs eg8 hw => ?_)
  have f9 : g8 h = some (.inr (11, [.ref (a 0), .int (nI (k + 1)), .ref (a 2), .ref (a 3), .ref (a 4), .ref (a 5), .ref (a 6), .ref (a 7), .ref (a 8), .ref (a 9), .int 0, .int 0])) := (by rw [eg8]; exact hp_up_self _ _ _)
  refine lv_iinc (v := 16) (lv' := [(2, .int 16), (0, .ref h), (1, .int x)]) cx.1 cx.2.1 dX11_putBytes_40 hl (k := 0) rfl (by decide) (by decide) rfl (fun ls hl => ?_)
  refine lv_goto (tgt := 3) cx.1 cx.2.1 dX11_putBytes_43 (by decide) ?_
  refine lv_iload_n cx.1 cx.2.1 dX11_putBytes_3 rfl (lv_at hl 0 rfl) ?_
  refine lv_if_lt (tgt := 46) cx.1 cx.2.1 dX11_putBytes_4 (by decide) (fun c4_10 => ?_) (fun c4_10 => ?_)
  · exact absurd c4_10 (by decide)
  refine lv_aload_n cx.1 cx.2.1 dX11_putBytes_7 rfl (lv_at hl 1 rfl) ?_
  refine hp_get (C := RX11) (T := TX11) (N := 12) (ci := 11) cx hw i_k_putBytes_X11 rfl f9 1 (by decide) m_k_putBytes_f73 (v := .int (nI (k + 1))) rfl dX11_putBytes_8 ?_
  refine lv_sipush (v := 3000) cx.1 cx.2.1 dX11_putBytes_11 (by decide) ?_
  refine lv_icmp_ge (tgt := 46) cx.1 cx.2.1 dX11_putBytes_14 (by decide) (fun c14_11 => ?_) (fun c14_11 => ?_)
  · exact absurd c14_11 (by rw [show (3000 : Int32) = nI 3000 from by decide]; exact nI_ge (by omega) (by decide))
  refine lv_aload_n cx.1 cx.2.1 dX11_putBytes_17 rfl (lv_at hl 1 rfl) ?_
  refine hp_get (C := RX11) (T := TX11) (N := 12) (ci := 11) cx hw i_k_putBytes_X11 rfl f9 0 (by decide) m_k_putBytes_f9 (v := .ref (a 0)) rfl dX11_putBytes_18 ?_
  refine lv_aload_n cx.1 cx.2.1 dX11_putBytes_21 rfl (lv_at hl 1 rfl) ?_
  refine hp_get (C := RX11) (T := TX11) (N := 12) (ci := 11) cx hw i_k_putBytes_X11 rfl f9 1 (by decide) m_k_putBytes_f73 (v := .int (nI (k + 1))) rfl dX11_putBytes_22 ?_
  refine lv_iload_n cx.1 cx.2.1 dX11_putBytes_25 rfl (lv_at hl 2 rfl) ?_
  refine lv_iload_n cx.1 cx.2.1 dX11_putBytes_26 rfl (lv_at hl 0 rfl) ?_
  refine lv_iushr (v := ((x.toUInt32 >>> ((16 : Int32).toUInt32 &&& Int32.toUInt32 31)).toInt32)) cx.1 cx.2.1 dX11_putBytes_27 rfl ?_
  refine lv_i2b (v := (((x.toUInt32 >>> ((16 : Int32).toUInt32 &&& Int32.toUInt32 31)).toInt32).toInt8.toInt32)) cx.1 cx.2.1 dX11_putBytes_28 rfl ?_
  have f12 : g8 (a 0) = some (.inl (cA 0, 3000, .inl fa5)) := (by rw [eg8]; exact (hp_up_ne _ _ (hp_neAO f4 f6)).trans f4)
  refine hp_bast cx hw 0 f12 rfl (vp_in_nI (by omega) (by decide)) dX11_putBytes_29 (fun g13 H locs eg13 hw => ?_)
  have f14 : g13 (a 0) = some (.inl (cA 0, 3000, .inl (upd fa5 (nI (k + 1)).toNatClampNeg (vp_nar .byte (((x.toUInt32 >>> ((16 : Int32).toUInt32 &&& Int32.toUInt32 31)).toInt32).toInt8.toInt32))))) := (by rw [eg13]; exact hp_up_self _ _ _)
  generalize (upd fa5 (nI (k + 1)).toNatClampNeg (vp_nar .byte (((x.toUInt32 >>> ((16 : Int32).toUInt32 &&& Int32.toUInt32 31)).toInt32).toInt8.toInt32))) = fa15 at f14
  refine lv_aload_n cx.1 cx.2.1 dX11_putBytes_30 rfl (lv_at hl 1 rfl) ?_
  refine lv_dup cx.1 cx.2.1 dX11_putBytes_31 rfl ?_
  have f16 : g13 h = some (.inr (11, [.ref (a 0), .int (nI (k + 1)), .ref (a 2), .ref (a 3), .ref (a 4), .ref (a 5), .ref (a 6), .ref (a 7), .ref (a 8), .ref (a 9), .int 0, .int 0])) := (by rw [eg13]; exact (hp_up_ne _ _ (hp_neOA f9 f12)).trans f9)
  refine hp_get (C := RX11) (T := TX11) (N := 12) (ci := 11) cx hw i_k_putBytes_X11 rfl f16 1 (by decide) m_k_putBytes_f73 (v := .int (nI (k + 1))) rfl dX11_putBytes_32 ?_
  refine lv_iconst (v := 1) cx.1 cx.2.1 dX11_putBytes_35 (by decide) ?_
  refine lv_iadd cx.1 cx.2.1 dX11_putBytes_36 ?_
  refine lv_topi (fun z17 ez17 => ?_)
  obtain rfl : z17 = nI (k + 1 + 1) := ez17.trans (nI_1 _)
  refine hp_put (C := RX11) (T := TX11) (N := 12) (ci := 11) (fs' := [.ref (a 0), .int (nI (k + 1 + 1)), .ref (a 2), .ref (a 3), .ref (a 4), .ref (a 5), .ref (a 6), .ref (a 7), .ref (a 8), .ref (a 9), .int 0, .int 0]) cx hw i_k_putBytes_X11 tyX11_ok nmX11 rfl f16 1 (by decide) m_k_putBytes_f73 rfl  rfl rfl (Nat.le_of_ble_eq_true rfl) rfl dX11_putBytes_37 (fun g18 H locs eg18 hw => ?_)
  have f19 : g18 h = some (.inr (11, [.ref (a 0), .int (nI (k + 1 + 1)), .ref (a 2), .ref (a 3), .ref (a 4), .ref (a 5), .ref (a 6), .ref (a 7), .ref (a 8), .ref (a 9), .int 0, .int 0])) := (by rw [eg18]; exact hp_up_self _ _ _)
  refine lv_iinc (v := 8) (lv' := [(2, .int 8), (0, .ref h), (1, .int x)]) cx.1 cx.2.1 dX11_putBytes_40 hl (k := 0) rfl (by decide) (by decide) rfl (fun ls hl => ?_)
  refine lv_goto (tgt := 3) cx.1 cx.2.1 dX11_putBytes_43 (by decide) ?_
  refine lv_iload_n cx.1 cx.2.1 dX11_putBytes_3 rfl (lv_at hl 0 rfl) ?_
  refine lv_if_lt (tgt := 46) cx.1 cx.2.1 dX11_putBytes_4 (by decide) (fun c4_20 => ?_) (fun c4_20 => ?_)
  · exact absurd c4_20 (by decide)
  refine lv_aload_n cx.1 cx.2.1 dX11_putBytes_7 rfl (lv_at hl 1 rfl) ?_
  refine hp_get (C := RX11) (T := TX11) (N := 12) (ci := 11) cx hw i_k_putBytes_X11 rfl f19 1 (by decide) m_k_putBytes_f73 (v := .int (nI (k + 1 + 1))) rfl dX11_putBytes_8 ?_
  refine lv_sipush (v := 3000) cx.1 cx.2.1 dX11_putBytes_11 (by decide) ?_
  refine lv_icmp_ge (tgt := 46) cx.1 cx.2.1 dX11_putBytes_14 (by decide) (fun c14_21 => ?_) (fun c14_21 => ?_)
  · exact absurd c14_21 (by rw [show (3000 : Int32) = nI 3000 from by decide]; exact nI_ge (by omega) (by decide))
  refine lv_aload_n cx.1 cx.2.1 dX11_putBytes_17 rfl (lv_at hl 1 rfl) ?_
  refine hp_get (C := RX11) (T := TX11) (N := 12) (ci := 11) cx hw i_k_putBytes_X11 rfl f19 0 (by decide) m_k_putBytes_f9 (v := .ref (a 0)) rfl dX11_putBytes_18 ?_
  refine lv_aload_n cx.1 cx.2.1 dX11_putBytes_21 rfl (lv_at hl 1 rfl) ?_
  refine hp_get (C := RX11) (T := TX11) (N := 12) (ci := 11) cx hw i_k_putBytes_X11 rfl f19 1 (by decide) m_k_putBytes_f73 (v := .int (nI (k + 1 + 1))) rfl dX11_putBytes_22 ?_
  refine lv_iload_n cx.1 cx.2.1 dX11_putBytes_25 rfl (lv_at hl 2 rfl) ?_
  refine lv_iload_n cx.1 cx.2.1 dX11_putBytes_26 rfl (lv_at hl 0 rfl) ?_
  refine lv_iushr (v := ((x.toUInt32 >>> ((8 : Int32).toUInt32 &&& Int32.toUInt32 31)).toInt32)) cx.1 cx.2.1 dX11_putBytes_27 rfl ?_
  refine lv_i2b (v := (((x.toUInt32 >>> ((8 : Int32).toUInt32 &&& Int32.toUInt32 31)).toInt32).toInt8.toInt32)) cx.1 cx.2.1 dX11_putBytes_28 rfl ?_
  have f22 : g18 (a 0) = some (.inl (cA 0, 3000, .inl fa15)) := (by rw [eg18]; exact (hp_up_ne _ _ (hp_neAO f14 f16)).trans f14)
  refine hp_bast cx hw 0 f22 rfl (vp_in_nI (by omega) (by decide)) dX11_putBytes_29 (fun g23 H locs eg23 hw => ?_)
  have f24 : g23 (a 0) = some (.inl (cA 0, 3000, .inl (upd fa15 (nI (k + 1 + 1)).toNatClampNeg (vp_nar .byte (((x.toUInt32 >>> ((8 : Int32).toUInt32 &&& Int32.toUInt32 31)).toInt32).toInt8.toInt32))))) := (by rw [eg23]; exact hp_up_self _ _ _)
  generalize (upd fa15 (nI (k + 1 + 1)).toNatClampNeg (vp_nar .byte (((x.toUInt32 >>> ((8 : Int32).toUInt32 &&& Int32.toUInt32 31)).toInt32).toInt8.toInt32))) = fa25 at f24
  refine lv_aload_n cx.1 cx.2.1 dX11_putBytes_30 rfl (lv_at hl 1 rfl) ?_
  refine lv_dup cx.1 cx.2.1 dX11_putBytes_31 rfl ?_
  have f26 : g23 h = some (.inr (11, [.ref (a 0), .int (nI (k + 1 + 1)), .ref (a 2), .ref (a 3), .ref (a 4), .ref (a 5), .ref (a 6), .ref (a 7), .ref (a 8), .ref (a 9), .int 0, .int 0])) := (by rw [eg23]; exact (hp_up_ne _ _ (hp_neOA f19 f22)).trans f19)
  refine hp_get (C := RX11) (T := TX11) (N := 12) (ci := 11) cx hw i_k_putBytes_X11 rfl f26 1 (by decide) m_k_putBytes_f73 (v := .int (nI (k + 1 + 1))) rfl dX11_putBytes_32 ?_
  refine lv_iconst (v := 1) cx.1 cx.2.1 dX11_putBytes_35 (by decide) ?_
  refine lv_iadd cx.1 cx.2.1 dX11_putBytes_36 ?_
  refine lv_topi (fun z27 ez27 => ?_)
  obtain rfl : z27 = nI (k + 1 + 1 + 1) := ez27.trans (nI_1 _)
  refine hp_put (C := RX11) (T := TX11) (N := 12) (ci := 11) (fs' := [.ref (a 0), .int (nI (k + 1 + 1 + 1)), .ref (a 2), .ref (a 3), .ref (a 4), .ref (a 5), .ref (a 6), .ref (a 7), .ref (a 8), .ref (a 9), .int 0, .int 0]) cx hw i_k_putBytes_X11 tyX11_ok nmX11 rfl f26 1 (by decide) m_k_putBytes_f73 rfl  rfl rfl (Nat.le_of_ble_eq_true rfl) rfl dX11_putBytes_37 (fun g28 H locs eg28 hw => ?_)
  have f29 : g28 h = some (.inr (11, [.ref (a 0), .int (nI (k + 1 + 1 + 1)), .ref (a 2), .ref (a 3), .ref (a 4), .ref (a 5), .ref (a 6), .ref (a 7), .ref (a 8), .ref (a 9), .int 0, .int 0])) := (by rw [eg28]; exact hp_up_self _ _ _)
  refine lv_iinc (v := 0) (lv' := [(2, .int 0), (0, .ref h), (1, .int x)]) cx.1 cx.2.1 dX11_putBytes_40 hl (k := 0) rfl (by decide) (by decide) rfl (fun ls hl => ?_)
  refine lv_goto (tgt := 3) cx.1 cx.2.1 dX11_putBytes_43 (by decide) ?_
  refine lv_iload_n cx.1 cx.2.1 dX11_putBytes_3 rfl (lv_at hl 0 rfl) ?_
  refine lv_if_lt (tgt := 46) cx.1 cx.2.1 dX11_putBytes_4 (by decide) (fun c4_30 => ?_) (fun c4_30 => ?_)
  · exact absurd c4_30 (by decide)
  refine lv_aload_n cx.1 cx.2.1 dX11_putBytes_7 rfl (lv_at hl 1 rfl) ?_
  refine hp_get (C := RX11) (T := TX11) (N := 12) (ci := 11) cx hw i_k_putBytes_X11 rfl f29 1 (by decide) m_k_putBytes_f73 (v := .int (nI (k + 1 + 1 + 1))) rfl dX11_putBytes_8 ?_
  refine lv_sipush (v := 3000) cx.1 cx.2.1 dX11_putBytes_11 (by decide) ?_
  refine lv_icmp_ge (tgt := 46) cx.1 cx.2.1 dX11_putBytes_14 (by decide) (fun c14_31 => ?_) (fun c14_31 => ?_)
  · exact absurd c14_31 (by rw [show (3000 : Int32) = nI 3000 from by decide]; exact nI_ge (by omega) (by decide))
  refine lv_aload_n cx.1 cx.2.1 dX11_putBytes_17 rfl (lv_at hl 1 rfl) ?_
  refine hp_get (C := RX11) (T := TX11) (N := 12) (ci := 11) cx hw i_k_putBytes_X11 rfl f29 0 (by decide) m_k_putBytes_f9 (v := .ref (a 0)) rfl dX11_putBytes_18 ?_
  refine lv_aload_n cx.1 cx.2.1 dX11_putBytes_21 rfl (lv_at hl 1 rfl) ?_
  refine hp_get (C := RX11) (T := TX11) (N := 12) (ci := 11) cx hw i_k_putBytes_X11 rfl f29 1 (by decide) m_k_putBytes_f73 (v := .int (nI (k + 1 + 1 + 1))) rfl dX11_putBytes_22 ?_
  refine lv_iload_n cx.1 cx.2.1 dX11_putBytes_25 rfl (lv_at hl 2 rfl) ?_
  refine lv_iload_n cx.1 cx.2.1 dX11_putBytes_26 rfl (lv_at hl 0 rfl) ?_
  refine lv_iushr (v := ((x.toUInt32 >>> ((0 : Int32).toUInt32 &&& Int32.toUInt32 31)).toInt32)) cx.1 cx.2.1 dX11_putBytes_27 rfl ?_
  refine lv_i2b (v := (((x.toUInt32 >>> ((0 : Int32).toUInt32 &&& Int32.toUInt32 31)).toInt32).toInt8.toInt32)) cx.1 cx.2.1 dX11_putBytes_28 rfl ?_
  have f32 : g28 (a 0) = some (.inl (cA 0, 3000, .inl fa25)) := (by rw [eg28]; exact (hp_up_ne _ _ (hp_neAO f24 f26)).trans f24)
  refine hp_bast cx hw 0 f32 rfl (vp_in_nI (by omega) (by decide)) dX11_putBytes_29 (fun g33 H locs eg33 hw => ?_)
  have f34 : g33 (a 0) = some (.inl (cA 0, 3000, .inl (upd fa25 (nI (k + 1 + 1 + 1)).toNatClampNeg (vp_nar .byte (((x.toUInt32 >>> ((0 : Int32).toUInt32 &&& Int32.toUInt32 31)).toInt32).toInt8.toInt32))))) := (by rw [eg33]; exact hp_up_self _ _ _)
  generalize (upd fa25 (nI (k + 1 + 1 + 1)).toNatClampNeg (vp_nar .byte (((x.toUInt32 >>> ((0 : Int32).toUInt32 &&& Int32.toUInt32 31)).toInt32).toInt8.toInt32))) = fa35 at f34
  refine lv_aload_n cx.1 cx.2.1 dX11_putBytes_30 rfl (lv_at hl 1 rfl) ?_
  refine lv_dup cx.1 cx.2.1 dX11_putBytes_31 rfl ?_
  have f36 : g33 h = some (.inr (11, [.ref (a 0), .int (nI (k + 1 + 1 + 1)), .ref (a 2), .ref (a 3), .ref (a 4), .ref (a 5), .ref (a 6), .ref (a 7), .ref (a 8), .ref (a 9), .int 0, .int 0])) := (by rw [eg33]; exact (hp_up_ne _ _ (hp_neOA f29 f32)).trans f29)
  refine hp_get (C := RX11) (T := TX11) (N := 12) (ci := 11) cx hw i_k_putBytes_X11 rfl f36 1 (by decide) m_k_putBytes_f73 (v := .int (nI (k + 1 + 1 + 1))) rfl dX11_putBytes_32 ?_
  refine lv_iconst (v := 1) cx.1 cx.2.1 dX11_putBytes_35 (by decide) ?_
  refine lv_iadd cx.1 cx.2.1 dX11_putBytes_36 ?_
  refine lv_topi (fun z37 ez37 => ?_)
  obtain rfl : z37 = nI (k + 1 + 1 + 1 + 1) := ez37.trans (nI_1 _)
  refine hp_put (C := RX11) (T := TX11) (N := 12) (ci := 11) (fs' := [.ref (a 0), .int (nI (k + 1 + 1 + 1 + 1)), .ref (a 2), .ref (a 3), .ref (a 4), .ref (a 5), .ref (a 6), .ref (a 7), .ref (a 8), .ref (a 9), .int 0, .int 0]) cx hw i_k_putBytes_X11 tyX11_ok nmX11 rfl f36 1 (by decide) m_k_putBytes_f73 rfl  rfl rfl (Nat.le_of_ble_eq_true rfl) rfl dX11_putBytes_37 (fun g38 H locs eg38 hw => ?_)
  have f39 : g38 h = some (.inr (11, [.ref (a 0), .int (nI (k + 1 + 1 + 1 + 1)), .ref (a 2), .ref (a 3), .ref (a 4), .ref (a 5), .ref (a 6), .ref (a 7), .ref (a 8), .ref (a 9), .int 0, .int 0])) := (by rw [eg38]; exact hp_up_self _ _ _)
  refine lv_iinc (v := (-8)) (lv' := [(2, .int (-8)), (0, .ref h), (1, .int x)]) cx.1 cx.2.1 dX11_putBytes_40 hl (k := 0) rfl (by decide) (by decide) rfl (fun ls hl => ?_)
  refine lv_goto (tgt := 3) cx.1 cx.2.1 dX11_putBytes_43 (by decide) ?_
  refine lv_iload_n cx.1 cx.2.1 dX11_putBytes_3 rfl (lv_at hl 0 rfl) ?_
  refine lv_if_lt (tgt := 46) cx.1 cx.2.1 dX11_putBytes_4 (by decide) (fun c4_40 => ?_) (fun c4_40 => ?_)
  rotate_left
  · exact absurd (by decide) c4_40
  have f41 : g38 (a 0) = some (.inl (cA 0, 3000, .inl fa35)) := (by rw [eg38]; exact (hp_up_ne _ _ (hp_neAO f34 f36)).trans f34)
  exact hp_vret cx hw (⟨_, f39, f41⟩) dX11_putBytes_46

def lk_f_feed : List Cond := [Cond.fieldLink RX11 73 "WardenHouse" "fed" "I", Cond.methodLink RX11 77 yX11_putBytes, Cond.instanceMethod yX11_putBytes, Cond.selects RX11 yX11_putBytes yX11_putBytes, Cond.initialized RX11]
def v_f_feed : List Cond := .code yX11_feed cX11_feed 6 (some .boolean) :: (lk_f_feed ++ (wsX110 ++ (v_k_putBytes ++ [])))
theorem m_f_feed_f73 : Cond.fieldLink RX11 73 "WardenHouse" "fed" "I" ∈ v_f_feed := List.mem_cons_of_mem _ (List.mem_append_left _ (List.mem_of_getElem? (i := 0) rfl))
theorem m_f_feed_l77 : Cond.methodLink RX11 77 yX11_putBytes ∈ v_f_feed := List.mem_cons_of_mem _ (List.mem_append_left _ (List.mem_of_getElem? (i := 1) rfl))
theorem m_f_feed_j77 : Cond.instanceMethod yX11_putBytes ∈ v_f_feed := List.mem_cons_of_mem _ (List.mem_append_left _ (List.mem_of_getElem? (i := 2) rfl))
theorem m_f_feed_s77 : Cond.selects RX11 yX11_putBytes yX11_putBytes ∈ v_f_feed := List.mem_cons_of_mem _ (List.mem_append_left _ (List.mem_of_getElem? (i := 3) rfl))
theorem m_f_feed_z11 : Cond.initialized RX11 ∈ v_f_feed := List.mem_cons_of_mem _ (List.mem_append_left _ (List.mem_of_getElem? (i := 4) rfl))
theorem i_f_feed_X11 : ∀ w ∈ wsX110, w ∈ v_f_feed := fun _ h => List.mem_cons_of_mem _ (List.mem_append_right _ (List.mem_append_left _ h))
theorem j_f_feed_v_k_putBytes : ∀ w ∈ v_k_putBytes, w ∈ v_f_feed := fun _ h => List.mem_cons_of_mem _ (List.mem_append_right _ (List.mem_append_right _ (List.mem_append_left _ h)))
theorem gk_f_feed : lk_f_feed.all goodWord = true := by decide +kernel
theorem gd_v_f_feed : ∀ w ∈ v_f_feed, gdW w := fun w h => (List.mem_cons.mp h).elim (fun e => by rw [e]; exact good_of_word rfl) (fun h => (List.mem_append.mp h).elim (fun h => good_of_word (List.all_eq_true.mp gk_f_feed w h)) (fun h => (List.mem_append.mp h).elim (gd_wsX110 w) (fun h => (List.mem_append.mp h).elim (gd_v_k_putBytes w) (fun h => nomatch h))))
theorem g_f_feed_77_v_k_putBytes : GoodIn v_f_feed (wsV RX11 77 RX11 yX11_putBytes v_k_putBytes) := goodIn_app (fun w h => (fun h => (List.mem_cons.mp h).elim (fun e => by rw [e]; exact ⟨m_f_feed_l77, good_of_word rfl⟩) (fun h => (List.mem_cons.mp h).elim (fun e => by rw [e]; exact ⟨m_f_feed_j77, good_of_word rfl⟩) (fun h => (List.mem_cons.mp h).elim (fun e => by rw [e]; exact ⟨m_f_feed_s77, good_of_word rfl⟩) (fun h => (List.mem_cons.mp h).elim (fun e => by rw [e]; exact ⟨m_f_feed_z11, good_of_word rfl⟩) (fun h => nomatch h))))) h) (fun w h => ⟨j_f_feed_v_k_putBytes w h, gd_v_k_putBytes w h⟩)
set_option maxHeartbeats 4000000 in
set_option maxRecDepth 100000 in
theorem f_feed (l : Launch) (D : va_G) (cA : Nat → ClassId) (E : hp_N) (sz : Nat) (g : hp_M) (h : Nat) (hf : fr_House cA g h) (x0 x1 x2 x3 x4 : Int32) : Met l yX11_feed v_f_feed ({ frames := 1, cells := 0, slots := 0, locals := 22 }) (hp_Pc D vwCl (hp_Tl cA) E sz g [.ref h, .int x0, .int x1, .int x2, .int x3, .int x4]) (hp_Qi D vwCl (hp_Tl cA) sz g (fun r _ => r = 1)) 0 0 (hp_A g sz) := by
  refine hp_ofW (cc := cX11_feed) (maxL := 6) (ret := (some .boolean)) (by decide) rfl (Nat.le_of_ble_eq_true rfl) ?_
  intro pp ee ss mm bb mt cd ls cx hsz hw hl
  have hl : lv_has ls 6 [(0, .ref h), (1, .int x0), (2, .int x1), (3, .int x2), (4, .int x3), (5, .int x4)] := hl
  obtain ⟨a, hh, ht, wa, pa, pl, ra, sa, ma, m0, hwd, hf1, hf11, hf2, hne, hpo, hpl, hre, hsu, hma⟩ := id hf
  refine lv_aload_n cx.1 cx.2.1 dX11_feed_0 rfl (lv_at hl 0 rfl) ?_
  refine hp_get (C := RX11) (T := TX11) (N := 12) (ci := 11) cx hw i_f_feed_X11 rfl hh 1 (by decide) m_f_feed_f73 (v := .int 0) rfl dX11_feed_1 ?_
  refine lv_sipush (v := 2980) cx.1 cx.2.1 dX11_feed_4 (by decide) ?_
  refine lv_icmp_le (tgt := 12) cx.1 cx.2.1 dX11_feed_7 (by decide) (fun c7_1 => ?_) (fun c7_1 => ?_)
  rotate_left
  · exact absurd (by decide) c7_1
  refine lv_aload_n cx.1 cx.2.1 dX11_feed_12 rfl (lv_at hl 0 rfl) ?_
  refine lv_iload_n cx.1 cx.2.1 dX11_feed_13 rfl (lv_at hl 1 rfl) ?_
  have hh0 : g h = some (.inr (11, [.ref (a 0), .int (nI 0), .ref (a 2), .ref (a 3), .ref (a 4), .ref (a 5), .ref (a 6), .ref (a 7), .ref (a 8), .ref (a 9), .int 0, .int 0])) := hh
  refine hp_callVv (As := [.int x0]) (rest := []) cx hw (k_putBytes l D cA E _ g h a 0 (fun _ => 0) (by decide) hh0 ht x0) (cwV 1 cx.2.2.2.2.2.1 g_f_feed_77_v_k_putBytes rfl rfl rfl (by decide +kernel) ⟨Nat.le_of_ble_eq_true rfl, Nat.le_of_ble_eq_true rfl⟩) hh rfl rfl hl.1 rfl (Nat.le_of_ble_eq_true rfl) dX11_feed_14 ⟨Nat.le_of_ble_eq_true rfl, Nat.le_of_ble_eq_true rfl⟩ (fun u2 H locs hp4 hw => ?_)
  obtain ⟨fb5, f6, f7⟩ := hp4
  refine lv_aload_n cx.1 cx.2.1 dX11_feed_17 rfl (lv_at hl 0 rfl) ?_
  refine lv_iload_n cx.1 cx.2.1 dX11_feed_18 rfl (lv_at hl 2 rfl) ?_
  refine hp_callVv (As := [.int x1]) (rest := []) cx hw (k_putBytes l D cA E _ u2 h a 4 fb5 (by decide) f6 f7 x1) (cwV 1 cx.2.2.2.2.2.1 g_f_feed_77_v_k_putBytes rfl rfl rfl (by decide +kernel) ⟨Nat.le_of_ble_eq_true rfl, Nat.le_of_ble_eq_true rfl⟩) f6 rfl rfl hl.1 rfl (Nat.le_of_ble_eq_true rfl) dX11_feed_19 ⟨Nat.le_of_ble_eq_true rfl, Nat.le_of_ble_eq_true rfl⟩ (fun u8 H locs hp10 hw => ?_)
  obtain ⟨fb11, f12, f13⟩ := hp10
  refine lv_aload_n cx.1 cx.2.1 dX11_feed_22 rfl (lv_at hl 0 rfl) ?_
  refine lv_iload_n cx.1 cx.2.1 dX11_feed_23 rfl (lv_at hl 3 rfl) ?_
  refine hp_callVv (As := [.int x2]) (rest := []) cx hw (k_putBytes l D cA E _ u8 h a 8 fb11 (by decide) f12 f13 x2) (cwV 1 cx.2.2.2.2.2.1 g_f_feed_77_v_k_putBytes rfl rfl rfl (by decide +kernel) ⟨Nat.le_of_ble_eq_true rfl, Nat.le_of_ble_eq_true rfl⟩) f12 rfl rfl hl.1 rfl (Nat.le_of_ble_eq_true rfl) dX11_feed_24 ⟨Nat.le_of_ble_eq_true rfl, Nat.le_of_ble_eq_true rfl⟩ (fun u14 H locs hp16 hw => ?_)
  obtain ⟨fb17, f18, f19⟩ := hp16
  refine lv_aload_n cx.1 cx.2.1 dX11_feed_27 rfl (lv_at hl 0 rfl) ?_
  refine lv_iload cx.1 cx.2.1 dX11_feed_28 (lv_at hl 4 rfl) ?_
  refine hp_callVv (As := [.int x3]) (rest := []) cx hw (k_putBytes l D cA E _ u14 h a 12 fb17 (by decide) f18 f19 x3) (cwV 1 cx.2.2.2.2.2.1 g_f_feed_77_v_k_putBytes rfl rfl rfl (by decide +kernel) ⟨Nat.le_of_ble_eq_true rfl, Nat.le_of_ble_eq_true rfl⟩) f18 rfl rfl hl.1 rfl (Nat.le_of_ble_eq_true rfl) dX11_feed_30 ⟨Nat.le_of_ble_eq_true rfl, Nat.le_of_ble_eq_true rfl⟩ (fun u20 H locs hp22 hw => ?_)
  obtain ⟨fb23, f24, f25⟩ := hp22
  refine lv_aload_n cx.1 cx.2.1 dX11_feed_33 rfl (lv_at hl 0 rfl) ?_
  refine lv_iload cx.1 cx.2.1 dX11_feed_34 (lv_at hl 5 rfl) ?_
  refine hp_callVv (As := [.int x4]) (rest := []) cx hw (k_putBytes l D cA E _ u20 h a 16 fb23 (by decide) f24 f25 x4) (cwV 1 cx.2.2.2.2.2.1 g_f_feed_77_v_k_putBytes rfl rfl rfl (by decide +kernel) ⟨Nat.le_of_ble_eq_true rfl, Nat.le_of_ble_eq_true rfl⟩) f24 rfl rfl hl.1 rfl (Nat.le_of_ble_eq_true rfl) dX11_feed_36 ⟨Nat.le_of_ble_eq_true rfl, Nat.le_of_ble_eq_true rfl⟩ (fun u26 H locs hp28 hw => ?_)
  obtain ⟨fb29, f30, f31⟩ := hp28
  refine lv_iconst (v := 1) cx.1 cx.2.1 dX11_feed_39 (by decide) ?_
  exact hp_zret cx hw (rfl) (by decide) dX11_feed_40
