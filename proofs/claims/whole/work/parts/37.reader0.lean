/-- the place that unitAt looks at -/
def un_ix (x : Int32) : Nat := if ¬ x < 0 ∧ x < 60 then x.toNatClampNeg else 0

theorem m_X2_unitAt_f17 : Cond.fieldLink RX2 17 "WardenHouse$Plan" "units" "[LWardenHouse$Unit;" ∈ wsX2_unitAt := by decide +kernel
set_option maxRecDepth 20000 in
theorem i_X2_unitAt_X2 : ∀ w ∈ wsX20, w ∈ wsX2_unitAt := by decide +kernel
set_option maxHeartbeats 4000000 in
set_option maxRecDepth 100000 in
/-- unitAt(x) -/
theorem k_Plan_unitAt (l : Launch) (D : va_G) (cA : Nat → ClassId) (E : hp_N) (sz : Nat) (g : hp_M) (h p0 : Nat) (a : Nat → Nat) (i2 i10 i12 i14 : Int32) (hh : g h = some (.inr (2, [.ref p0, .ref (a 1), .int i2, .ref (a 3), .ref (a 4), .ref (a 5), .ref (a 6), .ref (a 7), .ref (a 8), .ref (a 9), .int i10, .ref (a 11), .int i12, .ref (a 13), .int i14, .ref (a 15)]))) (row : Nat → Option Nat) (P : Nat → Nat → Nat) (hr : g (a 1) = some (.inl (cA 6, 60, .inr (.inr (.inr (.inr row)))))) (hrow : ∀ k, k < 60 → row k = some (P k 0)) (x : Int32) : Met l yX2_unitAt wsX2_unitAt ({ frames := 0, cells := 0, slots := 0, locals := 0 }) (hp_Pc D vwCl (hp_Tl cA) E sz g [.ref h, .int x]) (hp_Qr D vwCl (hp_Tl cA) sz g (fun r u => u = g ∧ r = P (un_ix x) 0)) 0 0 (hp_A g sz) := by
  refine hp_ofW (cc := cX2_unitAt) (maxL := 2) (ret := (some (.object "WardenHouse$Unit"))) (by decide) rfl (Nat.le_of_ble_eq_true rfl) ?_
  intro pp ee ss mm bb mt cd ls cx hsz hw hl
  have hl : lv_has ls 2 [(0, .ref h), (1, .int x)] := hl
  refine lv_aload_n cx.1 cx.2.1 dX2_unitAt_0 rfl (lv_at hl 0 rfl) ?_
  refine hp_get (C := RX2) (T := TX2) (N := 16) (ci := 2) cx hw i_X2_unitAt_X2 rfl hh 1 (by decide) m_X2_unitAt_f17 (v := .ref (a 1)) rfl dX2_unitAt_1 ?_
  refine lv_iload_n cx.1 cx.2.1 dX2_unitAt_4 rfl (lv_at hl 1 rfl) ?_
  refine lv_if_lt (tgt := 18) cx.1 cx.2.1 dX2_unitAt_5 (by decide) (fun c5_1 => ?_) (fun c5_1 => ?_)
  · skip
    refine lv_iconst (v := 0) cx.1 cx.2.1 dX2_unitAt_18 (by decide) ?_
    refine hp_aald cx hw 6 hr rfl (by unfold vp_in; decide) dX2_unitAt_19 ?_
    have ht0 : va_rf (row (0 : Int32).toNatClampNeg) = .ref (P 0 0) := by rw [show ((0 : Int32).toNatClampNeg) = 0 from rfl, hrow 0 (by omega)]; rfl
    rw [ht0]
    exact hp_aret cx hw (⟨rfl, by unfold un_ix; rw [if_neg (fun q => q.1 c5_1)]⟩) (Or.inl ⟨_, rfl⟩) dX2_unitAt_20
  · skip
    refine lv_iload_n cx.1 cx.2.1 dX2_unitAt_8 rfl (lv_at hl 1 rfl) ?_
    refine lv_bipush (v := 60) cx.1 cx.2.1 dX2_unitAt_9 (by decide) ?_
    refine lv_icmp_ge (tgt := 18) cx.1 cx.2.1 dX2_unitAt_11 (by decide) (fun c11_2 => ?_) (fun c11_2 => ?_)
    · skip
      refine lv_iconst (v := 0) cx.1 cx.2.1 dX2_unitAt_18 (by decide) ?_
      refine hp_aald cx hw 6 hr rfl (by unfold vp_in; decide) dX2_unitAt_19 ?_
      have ht0 : va_rf (row (0 : Int32).toNatClampNeg) = .ref (P 0 0) := by rw [show ((0 : Int32).toNatClampNeg) = 0 from rfl, hrow 0 (by omega)]; rfl
      rw [ht0]
      exact hp_aret cx hw (⟨rfl, by unfold un_ix; rw [if_neg (fun q => absurd q.2 (Int32.not_lt.mpr c11_2))]⟩) (Or.inl ⟨_, rfl⟩) dX2_unitAt_20
    · skip
      refine lv_iload_n cx.1 cx.2.1 dX2_unitAt_14 rfl (lv_at hl 1 rfl) ?_
      refine lv_goto (tgt := 19) cx.1 cx.2.1 dX2_unitAt_15 (by decide) ?_
      refine hp_aald cx hw 6 hr rfl (row_in c5_1 (Int32.not_le.mp c11_2) (by decide)) dX2_unitAt_19 ?_
      have ht0 : va_rf (row x.toNatClampNeg) = .ref (P x.toNatClampNeg 0) := by rw [hrow _ (Nat.not_le.mp fun q => (row_in (N := 60) c5_1 (Int32.not_le.mp c11_2) (by decide)) (Or.inr q))]; rfl
      rw [ht0]
      exact hp_aret cx hw (⟨rfl, by unfold un_ix; rw [if_pos ⟨c5_1, Int32.not_le.mp c11_2⟩]⟩) (Or.inl ⟨_, rfl⟩) dX2_unitAt_20

theorem m_X4_init_oi : Cond.methodLink RX4 3 objectInit ∈ wsX4_init := by decide +kernel
theorem m_X4_init_oj : Cond.instanceMethod objectInit ∈ wsX4_init := by decide +kernel
theorem m_X4_init_ok : Cond.code objectInit ⟨#[0xb1]⟩ 1 none ∈ wsX4_init := by decide +kernel
theorem m_X4_init_f9 : Cond.fieldLink RX4 9 "WardenHouse$Reader" "words" "LWardenHouse$Words;" ∈ wsX4_init := by decide +kernel
set_option maxRecDepth 20000 in
theorem i_X4_init_X4 : ∀ w ∈ wsX40, w ∈ wsX4_init := by decide +kernel
theorem m_X4_init_f15 : Cond.fieldLink RX4 15 "WardenHouse$Reader" "plan" "LWardenHouse$Plan;" ∈ wsX4_init := by decide +kernel
theorem m_X4_init_f19 : Cond.fieldLink RX4 19 "WardenHouse$Reader" "policy" "LWardenHouse$Policy;" ∈ wsX4_init := by decide +kernel
theorem m_X4_init_k23 : Cond.classLink RX4 23 RX5 ∈ wsX4_init := by decide +kernel
theorem m_X4_init_n5 : Cond.instantiable RX5 4 ∈ wsX4_init := by decide +kernel
theorem m_X4_init_z5 : Cond.initialized RX5 ∈ wsX4_init := by decide +kernel
set_option maxRecDepth 20000 in
theorem i_X4_init_X5 : ∀ w ∈ wsX50, w ∈ wsX4_init := by decide +kernel
theorem m_X4_init_l25 : Cond.methodLink RX4 25 yX5_init ∈ wsX4_init := by decide +kernel
theorem m_X4_init_j25 : Cond.instanceMethod yX5_init ∈ wsX4_init := by decide +kernel
theorem m_X4_init_f26 : Cond.fieldLink RX4 26 "WardenHouse$Reader" "pattern" "LWardenHouse$Right;" ∈ wsX4_init := by decide +kernel
theorem m_X4_init_a2 : Cond.arrayClass .long ∈ wsX4_init := by decide +kernel
theorem m_X4_init_f30 : Cond.fieldLink RX4 30 "WardenHouse$Reader" "scopeNames" "[J" ∈ wsX4_init := by decide +kernel
theorem m_X4_init_a1 : Cond.arrayClass .int ∈ wsX4_init := by decide +kernel
theorem m_X4_init_f34 : Cond.fieldLink RX4 34 "WardenHouse$Reader" "scopeKeys" "[I" ∈ wsX4_init := by decide +kernel
theorem m_X4_init_f44 : Cond.fieldLink RX4 44 "WardenHouse$Reader" "method" "LWardenHouse$Unit;" ∈ wsX4_init := by decide +kernel
theorem m_X4_init_f48 : Cond.fieldLink RX4 48 "WardenHouse$Reader" "now" "LWardenHouse$Unit;" ∈ wsX4_init := by decide +kernel
theorem m_X4_init_f51 : Cond.fieldLink RX4 51 "WardenHouse$Reader" "faultPlace" "I" ∈ wsX4_init := by decide +kernel
set_option maxHeartbeats 4000000 in
set_option maxRecDepth 100000 in
/-- Reader(words, plan, policy) -/
theorem k_Reader_init (l : Launch) (D : va_G) (cA : Nat → ClassId) (E : hp_N) (sz : Nat) (g : hp_M) (wd pln pol : Nat) (pa : Nat → Nat) (hp : g pln = some (.inr (2, [.ref pol, .ref (pa 1), .int 0, .ref (pa 3), .ref (pa 4), .ref (pa 5), .ref (pa 6), .ref (pa 7), .ref (pa 8), .ref (pa 9), .int 0, .ref (pa 11), .int 0, .ref (pa 13), .int 0, .ref (pa 15)]))) (row : Nat → Option Nat) (P : Nat → Nat → Nat) (hr : g (pa 1) = some (.inl (cA 6, 60, .inr (.inr (.inr (.inr row)))))) (hrow : ∀ k, k < 60 → row k = some (P k 0)) (h : Nat) (hh : g h = some (.inr (4, [.null, .null, .null, .null, .null, .null, .int 0, .null, .null, .int 0, .int 0, .int 0, .int 0]))) : Met l yX4_init wsX4_init ({ frames := 2, cells := 4, slots := 33, locals := 45 }) (hp_Pc D vwCl (hp_Tl cA) E sz g [.ref h, .ref wd, .ref pln, .ref pol]) (hp_Qv D vwCl (hp_Tl cA) sz g (fun u => hp_extX h g u ∧ ∃ a : Nat → Nat, u h = some (.inr (4, [.ref wd, .ref pln, .ref pol, .ref (a 3), .ref (a 4), .ref (a 5), .int 0, .ref (P (un_ix 0) 0), .ref (P (un_ix 0) 0), .int 0, .int 0, .int 0, .int (-1)])) ∧ u (a 3) = some (.inr (5, [.long 0, .ref (a 13), .int 0, .int 0])) ∧ g (a 3) = none)) 4 33 (hp_A g sz) := by
  refine hp_ofW (cc := cX4_init) (maxL := 4) (ret := none) (by decide) rfl (Nat.le_of_ble_eq_true rfl) ?_
  intro pp ee ss mm bb mt cd ls cx hsz hw hl
  have hl : lv_has ls 4 [(0, .ref h), (1, .ref wd), (2, .ref pln), (3, .ref pol)] := hl
  refine lv_aload_n cx.1 cx.2.1 dX4_init_0 rfl (lv_at hl 0 rfl) ?_
  refine W.objInit cx.1 cx.2.1 cx.2.2.2.2.1 (cx.2.2.2.2.2.1 _ m_X4_init_oi) (cx.2.2.2.2.2.1 _ m_X4_init_oj) (cx.2.2.2.2.2.1 _ m_X4_init_ok) rfl (by rw [cx.2.2.2.1]; exact hl.1) rfl dX4_init_1 (Nat.le_of_ble_eq_true rfl) (Nat.le_of_ble_eq_true rfl) ?_
  refine W.eq (g2 := F0 mm 4 ls []) rfl ?_
  refine lv_aload_n cx.1 cx.2.1 dX4_init_4 rfl (lv_at hl 0 rfl) ?_
  refine lv_aload_n cx.1 cx.2.1 dX4_init_5 rfl (lv_at hl 1 rfl) ?_
  refine hp_putF (C := RX4) (T := TX4) (N := 13) (ci := 4) (fs' := [.ref wd, .null, .null, .null, .null, .null, .int 0, .null, .null, .int 0, .int 0, .int 0, .int 0]) cx hw i_X4_init_X4 tyX4_ok nmX4 rfl hh 0 (by decide) m_X4_init_f9 rfl rfl rfl rfl rfl (Nat.le_of_ble_eq_true rfl) rfl dX4_init_6 (fun g1 H locs eg1 hw => ?_)
  have f2 : g1 h = some (.inr (4, [.ref wd, .null, .null, .null, .null, .null, .int 0, .null, .null, .int 0, .int 0, .int 0, .int 0])) := (by rw [eg1]; exact hp_up_self _ _ _)
  refine lv_aload_n cx.1 cx.2.1 dX4_init_9 rfl (lv_at hl 0 rfl) ?_
  refine lv_aload_n cx.1 cx.2.1 dX4_init_10 rfl (lv_at hl 2 rfl) ?_
  refine hp_putF (C := RX4) (T := TX4) (N := 13) (ci := 4) (fs' := [.ref wd, .ref pln, .null, .null, .null, .null, .int 0, .null, .null, .int 0, .int 0, .int 0, .int 0]) cx hw i_X4_init_X4 tyX4_ok nmX4 rfl f2 1 (by decide) m_X4_init_f15 rfl rfl rfl rfl rfl (Nat.le_of_ble_eq_true rfl) rfl dX4_init_11 (fun g3 H locs eg3 hw => ?_)
  have f4 : g3 h = some (.inr (4, [.ref wd, .ref pln, .null, .null, .null, .null, .int 0, .null, .null, .int 0, .int 0, .int 0, .int 0])) := (by rw [eg3]; exact hp_up_self _ _ _)
  refine lv_aload_n cx.1 cx.2.1 dX4_init_14 rfl (lv_at hl 0 rfl) ?_
  refine lv_aload_n cx.1 cx.2.1 dX4_init_15 rfl (lv_at hl 3 rfl) ?_
  refine hp_putF (C := RX4) (T := TX4) (N := 13) (ci := 4) (fs' := [.ref wd, .ref pln, .ref pol, .null, .null, .null, .int 0, .null, .null, .int 0, .int 0, .int 0, .int 0]) cx hw i_X4_init_X4 tyX4_ok nmX4 rfl f4 2 (by decide) m_X4_init_f19 rfl rfl rfl rfl rfl (Nat.le_of_ble_eq_true rfl) rfl dX4_init_16 (fun g5 H locs eg5 hw => ?_)
  have f6 : g5 h = some (.inr (4, [.ref wd, .ref pln, .ref pol, .null, .null, .null, .int 0, .null, .null, .int 0, .int 0, .int 0, .int 0])) := (by rw [eg5]; exact hp_up_self _ _ _)
  refine lv_aload_n cx.1 cx.2.1 dX4_init_19 rfl (lv_at hl 0 rfl) ?_
  refine hp_new (C := RX5) (T := TX5) (N := 4) (ci := 5) (fs := [.long 0, .null, .int 0, .int 0]) cx hw i_X4_init_X5 tyX5_ok rfl m_X4_init_k23 m_X4_init_n5 m_X4_init_z5 nwX5 (by exact Nat.le_of_ble_eq_true rfl) (by exact Nat.le_of_ble_eq_true rfl) dX4_init_20 (fun q7 g8 H nq7 eg8 hw => ?_)
  have f9 : g8 q7 = some (.inr (5, [.long 0, .null, .int 0, .int 0])) := (by rw [eg8]; exact hp_up_self _ _ _)
  refine lv_dup cx.1 cx.2.1 dX4_init_23 rfl ?_
  refine hp_callIv (As := []) (rest := [.ref q7, .ref h]) cx hw (k_Right_init l D cA E _ g8 q7 f9) (cwI 0 cx.2.2.2.2.2.1 gX4_init_X5_init rfl rfl rfl (cx.2.2.2.2.2.1 _ m_X4_init_z5) (cx.2.2.2.2.2.1 _ m_X4_init_l25) (cx.2.2.2.2.2.1 _ m_X4_init_j25) rfl (by decide +kernel) ⟨Nat.le_of_ble_eq_true rfl, Nat.le_of_ble_eq_true rfl⟩) rfl hl.1 rfl (Nat.le_of_ble_eq_true rfl) dX4_init_24 ⟨Nat.le_of_ble_eq_true rfl, Nat.le_of_ble_eq_true rfl⟩ (fun u10 H locs hp12 hw => ?_)
  have hmu10 : pl_made 2 (K_Right cA) q7 g8 u10 := hp12
  obtain ⟨p13, p130, p13i, p13n, p13j, p13x⟩ := hp12
  have f14 : u10 q7 = some (.inr (5, [.long 0, .ref (p13 1), .int 0, .int 0])) := by rw [← p130]; exact p13i 0 (by decide)
  have f15 : g8 h = some (.inr (4, [.ref wd, .ref pln, .ref pol, .null, .null, .null, .int 0, .null, .null, .int 0, .int 0, .int 0, .int 0])) := (by rw [eg8]; exact (hp_up_ne _ _ (hp_neN f6 nq7)).trans f6)
  have f16 : u10 h = some (.inr (4, [.ref wd, .ref pln, .ref pol, .null, .null, .null, .int 0, .null, .null, .int 0, .int 0, .int 0, .int 0])) := p13x _ _ (hp_neK f15 f9 (by decide)) f15
  refine hp_putF (C := RX4) (T := TX4) (N := 13) (ci := 4) (fs' := [.ref wd, .ref pln, .ref pol, .ref q7, .null, .null, .int 0, .null, .null, .int 0, .int 0, .int 0, .int 0]) cx hw i_X4_init_X4 tyX4_ok nmX4 rfl f16 3 (by decide) m_X4_init_f26 rfl rfl rfl rfl rfl (Nat.le_of_ble_eq_true rfl) rfl dX4_init_27 (fun g17 H locs eg17 hw => ?_)
  have f18 : g17 h = some (.inr (4, [.ref wd, .ref pln, .ref pol, .ref q7, .null, .null, .int 0, .null, .null, .int 0, .int 0, .int 0, .int 0])) := (by rw [eg17]; exact hp_up_self _ _ _)
  refine lv_aload_n cx.1 cx.2.1 dX4_init_30 rfl (lv_at hl 0 rfl) ?_
  refine lv_bipush (v := 12) cx.1 cx.2.1 dX4_init_31 (by decide) ?_
  refine hp_newa (atype := .long) (N' := 12) (a0 := (12, .inr (.inl (fun _ => 0)))) cx hw m_X4_init_a2 2 (ty := .long) rfl rfl (fun _ => rfl) (by decide) (by decide) (by decide) (by exact Nat.le_of_ble_eq_true rfl) (by exact Nat.le_of_ble_eq_true rfl) dX4_init_33 (fun q19 g20 H nq19 eg20 hw => ?_)
  have f21 : g20 q19 = some (.inl (cA 2, 12, .inr (.inl (fun _ => 0)))) := (by rw [eg20]; exact hp_up_self _ _ _)
  have f22 : g20 h = some (.inr (4, [.ref wd, .ref pln, .ref pol, .ref q7, .null, .null, .int 0, .null, .null, .int 0, .int 0, .int 0, .int 0])) := (by rw [eg20]; exact (hp_up_ne _ _ (hp_neN f18 nq19)).trans f18)
  refine hp_putF (C := RX4) (T := TX4) (N := 13) (ci := 4) (fs' := [.ref wd, .ref pln, .ref pol, .ref q7, .ref q19, .null, .int 0, .null, .null, .int 0, .int 0, .int 0, .int 0]) cx hw i_X4_init_X4 tyX4_ok nmX4 rfl f22 4 (by decide) m_X4_init_f30 rfl rfl rfl rfl rfl (Nat.le_of_ble_eq_true rfl) rfl dX4_init_35 (fun g23 H locs eg23 hw => ?_)
  have f24 : g23 h = some (.inr (4, [.ref wd, .ref pln, .ref pol, .ref q7, .ref q19, .null, .int 0, .null, .null, .int 0, .int 0, .int 0, .int 0])) := (by rw [eg23]; exact hp_up_self _ _ _)
  refine lv_aload_n cx.1 cx.2.1 dX4_init_38 rfl (lv_at hl 0 rfl) ?_
  refine lv_bipush (v := 12) cx.1 cx.2.1 dX4_init_39 (by decide) ?_
  refine hp_newa (atype := .int) (N' := 12) (a0 := (12, .inl (fun _ => 0))) cx hw m_X4_init_a1 1 (ty := .int) rfl rfl (fun _ => rfl) (by decide) (by decide) (by decide) (by exact Nat.le_of_ble_eq_true rfl) (by exact Nat.le_of_ble_eq_true rfl) dX4_init_41 (fun q25 g26 H nq25 eg26 hw => ?_)
  have f27 : g26 q25 = some (.inl (cA 1, 12, .inl (fun _ => 0))) := (by rw [eg26]; exact hp_up_self _ _ _)
  have f28 : g26 h = some (.inr (4, [.ref wd, .ref pln, .ref pol, .ref q7, .ref q19, .null, .int 0, .null, .null, .int 0, .int 0, .int 0, .int 0])) := (by rw [eg26]; exact (hp_up_ne _ _ (hp_neN f24 nq25)).trans f24)
  refine hp_putF (C := RX4) (T := TX4) (N := 13) (ci := 4) (fs' := [.ref wd, .ref pln, .ref pol, .ref q7, .ref q19, .ref q25, .int 0, .null, .null, .int 0, .int 0, .int 0, .int 0]) cx hw i_X4_init_X4 tyX4_ok nmX4 rfl f28 5 (by decide) m_X4_init_f34 rfl rfl rfl rfl rfl (Nat.le_of_ble_eq_true rfl) rfl dX4_init_43 (fun g29 H locs eg29 hw => ?_)
  have f30 : g29 h = some (.inr (4, [.ref wd, .ref pln, .ref pol, .ref q7, .ref q19, .ref q25, .int 0, .null, .null, .int 0, .int 0, .int 0, .int 0])) := (by rw [eg29]; exact hp_up_self _ _ _)
  refine lv_aload_n cx.1 cx.2.1 dX4_init_46 rfl (lv_at hl 0 rfl) ?_
  refine lv_aload_n cx.1 cx.2.1 dX4_init_47 rfl (lv_at hl 2 rfl) ?_
  refine lv_iconst (v := 0) cx.1 cx.2.1 dX4_init_48 (by decide) ?_
  have f31 : g1 pln = some (.inr (2, [.ref pol, .ref (pa 1), .int 0, .ref (pa 3), .ref (pa 4), .ref (pa 5), .ref (pa 6), .ref (pa 7), .ref (pa 8), .ref (pa 9), .int 0, .ref (pa 11), .int 0, .ref (pa 13), .int 0, .ref (pa 15)])) := (by rw [eg1]; exact (hp_up_ne _ _ (hp_neK hp hh (by decide))).trans hp)
  have f32 : g3 pln = some (.inr (2, [.ref pol, .ref (pa 1), .int 0, .ref (pa 3), .ref (pa 4), .ref (pa 5), .ref (pa 6), .ref (pa 7), .ref (pa 8), .ref (pa 9), .int 0, .ref (pa 11), .int 0, .ref (pa 13), .int 0, .ref (pa 15)])) := (by rw [eg3]; exact (hp_up_ne _ _ (hp_neK f31 f2 (by decide))).trans f31)
  have f33 : g5 pln = some (.inr (2, [.ref pol, .ref (pa 1), .int 0, .ref (pa 3), .ref (pa 4), .ref (pa 5), .ref (pa 6), .ref (pa 7), .ref (pa 8), .ref (pa 9), .int 0, .ref (pa 11), .int 0, .ref (pa 13), .int 0, .ref (pa 15)])) := (by rw [eg5]; exact (hp_up_ne _ _ (hp_neK f32 f4 (by decide))).trans f32)
  have f34 : g8 pln = some (.inr (2, [.ref pol, .ref (pa 1), .int 0, .ref (pa 3), .ref (pa 4), .ref (pa 5), .ref (pa 6), .ref (pa 7), .ref (pa 8), .ref (pa 9), .int 0, .ref (pa 11), .int 0, .ref (pa 13), .int 0, .ref (pa 15)])) := (by rw [eg8]; exact (hp_up_ne _ _ (hp_neN f33 nq7)).trans f33)
  have f35 : u10 pln = some (.inr (2, [.ref pol, .ref (pa 1), .int 0, .ref (pa 3), .ref (pa 4), .ref (pa 5), .ref (pa 6), .ref (pa 7), .ref (pa 8), .ref (pa 9), .int 0, .ref (pa 11), .int 0, .ref (pa 13), .int 0, .ref (pa 15)])) := p13x _ _ (hp_neK f34 f9 (by decide)) f34
  have f36 : g17 pln = some (.inr (2, [.ref pol, .ref (pa 1), .int 0, .ref (pa 3), .ref (pa 4), .ref (pa 5), .ref (pa 6), .ref (pa 7), .ref (pa 8), .ref (pa 9), .int 0, .ref (pa 11), .int 0, .ref (pa 13), .int 0, .ref (pa 15)])) := (by rw [eg17]; exact (hp_up_ne _ _ (hp_neK f35 f16 (by decide))).trans f35)
  have f37 : g20 pln = some (.inr (2, [.ref pol, .ref (pa 1), .int 0, .ref (pa 3), .ref (pa 4), .ref (pa 5), .ref (pa 6), .ref (pa 7), .ref (pa 8), .ref (pa 9), .int 0, .ref (pa 11), .int 0, .ref (pa 13), .int 0, .ref (pa 15)])) := (by rw [eg20]; exact (hp_up_ne _ _ (hp_neN f36 nq19)).trans f36)
  have f38 : g23 pln = some (.inr (2, [.ref pol, .ref (pa 1), .int 0, .ref (pa 3), .ref (pa 4), .ref (pa 5), .ref (pa 6), .ref (pa 7), .ref (pa 8), .ref (pa 9), .int 0, .ref (pa 11), .int 0, .ref (pa 13), .int 0, .ref (pa 15)])) := (by rw [eg23]; exact (hp_up_ne _ _ (hp_neK f37 f22 (by decide))).trans f37)
  have f39 : g26 pln = some (.inr (2, [.ref pol, .ref (pa 1), .int 0, .ref (pa 3), .ref (pa 4), .ref (pa 5), .ref (pa 6), .ref (pa 7), .ref (pa 8), .ref (pa 9), .int 0, .ref (pa 11), .int 0, .ref (pa 13), .int 0, .ref (pa 15)])) := (by rw [eg26]; exact (hp_up_ne _ _ (hp_neN f38 nq25)).trans f38)
  have f40 : g29 pln = some (.inr (2, [.ref pol, .ref (pa 1), .int 0, .ref (pa 3), .ref (pa 4), .ref (pa 5), .ref (pa 6), .ref (pa 7), .ref (pa 8), .ref (pa 9), .int 0, .ref (pa 11), .int 0, .ref (pa 13), .int 0, .ref (pa 15)])) := (by rw [eg29]; exact (hp_up_ne _ _ (hp_neK f39 f28 (by decide))).trans f39)
  have f41 : g1 (pa 1) = some (.inl (cA 6, 60, .inr (.inr (.inr (.inr row))))) := (by rw [eg1]; exact (hp_up_ne _ _ (hp_neAO hr hh)).trans hr)
  have f42 : g3 (pa 1) = some (.inl (cA 6, 60, .inr (.inr (.inr (.inr row))))) := (by rw [eg3]; exact (hp_up_ne _ _ (hp_neAO f41 f2)).trans f41)
  have f43 : g5 (pa 1) = some (.inl (cA 6, 60, .inr (.inr (.inr (.inr row))))) := (by rw [eg5]; exact (hp_up_ne _ _ (hp_neAO f42 f4)).trans f42)
  have f44 : g8 (pa 1) = some (.inl (cA 6, 60, .inr (.inr (.inr (.inr row))))) := (by rw [eg8]; exact (hp_up_ne _ _ (hp_neN f43 nq7)).trans f43)
  have f45 : u10 (pa 1) = some (.inl (cA 6, 60, .inr (.inr (.inr (.inr row))))) := p13x _ _ (hp_neAO f44 f9) f44
  have f46 : g17 (pa 1) = some (.inl (cA 6, 60, .inr (.inr (.inr (.inr row))))) := (by rw [eg17]; exact (hp_up_ne _ _ (hp_neAO f45 f16)).trans f45)
  have f47 : g20 (pa 1) = some (.inl (cA 6, 60, .inr (.inr (.inr (.inr row))))) := (by rw [eg20]; exact (hp_up_ne _ _ (hp_neN f46 nq19)).trans f46)
  have f48 : g23 (pa 1) = some (.inl (cA 6, 60, .inr (.inr (.inr (.inr row))))) := (by rw [eg23]; exact (hp_up_ne _ _ (hp_neAO f47 f22)).trans f47)
  have f49 : g26 (pa 1) = some (.inl (cA 6, 60, .inr (.inr (.inr (.inr row))))) := (by rw [eg26]; exact (hp_up_ne _ _ (hp_neN f48 nq25)).trans f48)
  have f50 : g29 (pa 1) = some (.inl (cA 6, 60, .inr (.inr (.inr (.inr row))))) := (by rw [eg29]; exact (hp_up_ne _ _ (hp_neAO f49 f28)).trans f49)
  refine hp_callVr (As := [.int 0]) (rest := [.ref h]) cx hw (k_Plan_unitAt l D cA E _ g29 pln pol pa 0 0 0 0 f40 row P f50 hrow 0) (cwV 1 cx.2.2.2.2.2.1 gX4_init_X2_unitAt rfl rfl rfl (by decide +kernel) ⟨Nat.le_of_ble_eq_true rfl, Nat.le_of_ble_eq_true rfl⟩) f40 rfl rfl hl.1 rfl (Nat.le_of_ble_eq_true rfl) dX4_init_49 ⟨Nat.le_of_ble_eq_true rfl, Nat.le_of_ble_eq_true rfl⟩ (fun r52 u51 H locs hp53 hw => ?_)
  obtain ⟨euu51, err52⟩ := hp53
  rw [euu51] at hw
  subst err52
  refine hp_put (C := RX4) (T := TX4) (N := 13) (ci := 4) (fs' := [.ref wd, .ref pln, .ref pol, .ref q7, .ref q19, .ref q25, .int 0, .ref (P (un_ix 0) 0), .null, .int 0, .int 0, .int 0, .int 0]) cx hw i_X4_init_X4 tyX4_ok nmX4 rfl f30 7 (by decide) m_X4_init_f44 rfl  rfl rfl (Nat.le_of_ble_eq_true rfl) rfl dX4_init_52 (fun g54 H locs eg54 hw => ?_)
  have f55 : g54 h = some (.inr (4, [.ref wd, .ref pln, .ref pol, .ref q7, .ref q19, .ref q25, .int 0, .ref (P (un_ix 0) 0), .null, .int 0, .int 0, .int 0, .int 0])) := (by rw [eg54]; exact hp_up_self _ _ _)
  refine lv_aload_n cx.1 cx.2.1 dX4_init_55 rfl (lv_at hl 0 rfl) ?_
  refine lv_aload_n cx.1 cx.2.1 dX4_init_56 rfl (lv_at hl 0 rfl) ?_
  refine hp_get (C := RX4) (T := TX4) (N := 13) (ci := 4) cx hw i_X4_init_X4 rfl f55 7 (by decide) m_X4_init_f44 (v := .ref (P (un_ix 0) 0)) rfl dX4_init_57 ?_
  refine hp_put (C := RX4) (T := TX4) (N := 13) (ci := 4) (fs' := [.ref wd, .ref pln, .ref pol, .ref q7, .ref q19, .ref q25, .int 0, .ref (P (un_ix 0) 0), .ref (P (un_ix 0) 0), .int 0, .int 0, .int 0, .int 0]) cx hw i_X4_init_X4 tyX4_ok nmX4 rfl f55 8 (by decide) m_X4_init_f48 rfl  rfl rfl (Nat.le_of_ble_eq_true rfl) rfl dX4_init_60 (fun g56 H locs eg56 hw => ?_)
  have f57 : g56 h = some (.inr (4, [.ref wd, .ref pln, .ref pol, .ref q7, .ref q19, .ref q25, .int 0, .ref (P (un_ix 0) 0), .ref (P (un_ix 0) 0), .int 0, .int 0, .int 0, .int 0])) := (by rw [eg56]; exact hp_up_self _ _ _)
  refine lv_aload_n cx.1 cx.2.1 dX4_init_63 rfl (lv_at hl 0 rfl) ?_
  refine lv_iconst (v := (-1)) cx.1 cx.2.1 dX4_init_64 (by decide) ?_
  refine hp_put (C := RX4) (T := TX4) (N := 13) (ci := 4) (fs' := [.ref wd, .ref pln, .ref pol, .ref q7, .ref q19, .ref q25, .int 0, .ref (P (un_ix 0) 0), .ref (P (un_ix 0) 0), .int 0, .int 0, .int 0, .int (-1)]) cx hw i_X4_init_X4 tyX4_ok nmX4 rfl f57 12 (by decide) m_X4_init_f51 rfl  rfl rfl (Nat.le_of_ble_eq_true rfl) rfl dX4_init_65 (fun g58 H locs eg58 hw => ?_)
  have f59 : g58 h = some (.inr (4, [.ref wd, .ref pln, .ref pol, .ref q7, .ref q19, .ref q25, .int 0, .ref (P (un_ix 0) 0), .ref (P (un_ix 0) 0), .int 0, .int 0, .int 0, .int (-1)])) := (by rw [eg58]; exact hp_up_self _ _ _)
  have f60 : g17 q7 = some (.inr (5, [.long 0, .ref (p13 1), .int 0, .int 0])) := (by rw [eg17]; exact (hp_up_ne _ _ (hp_neK f14 f16 (by decide))).trans f14)
  have f61 : g20 q7 = some (.inr (5, [.long 0, .ref (p13 1), .int 0, .int 0])) := (by rw [eg20]; exact (hp_up_ne _ _ (hp_neN f60 nq19)).trans f60)
  have f62 : g23 q7 = some (.inr (5, [.long 0, .ref (p13 1), .int 0, .int 0])) := (by rw [eg23]; exact (hp_up_ne _ _ (hp_neK f61 f22 (by decide))).trans f61)
  have f63 : g26 q7 = some (.inr (5, [.long 0, .ref (p13 1), .int 0, .int 0])) := (by rw [eg26]; exact (hp_up_ne _ _ (hp_neN f62 nq25)).trans f62)
  have f64 : g29 q7 = some (.inr (5, [.long 0, .ref (p13 1), .int 0, .int 0])) := (by rw [eg29]; exact (hp_up_ne _ _ (hp_neK f63 f28 (by decide))).trans f63)
  have f65 : g54 q7 = some (.inr (5, [.long 0, .ref (p13 1), .int 0, .int 0])) := (by rw [eg54]; exact (hp_up_ne _ _ (hp_neK f64 f30 (by decide))).trans f64)
  have f66 : g56 q7 = some (.inr (5, [.long 0, .ref (p13 1), .int 0, .int 0])) := (by rw [eg56]; exact (hp_up_ne _ _ (hp_neK f65 f55 (by decide))).trans f65)
  have f67 : g58 q7 = some (.inr (5, [.long 0, .ref (p13 1), .int 0, .int 0])) := (by rw [eg58]; exact (hp_up_ne _ _ (hp_neK f66 f57 (by decide))).trans f66)
  have hxt : hp_extX h g g58 := by
    intro b e hb hg
    have b_g1 : g1 b = some e := by rw [eg1]; exact (hp_up_ne _ _ (hb)).trans hg
    have b_g3 : g3 b = some e := by rw [eg3]; exact (hp_up_ne _ _ (hb)).trans b_g1
    have b_g5 : g5 b = some e := by rw [eg5]; exact (hp_up_ne _ _ (hb)).trans b_g3
    have b_g8 : g8 b = some e := by rw [eg8]; exact (hp_up_ne _ _ (hp_neN b_g5 nq7)).trans b_g5
    have b_u10 := p13x b e (hp_neN hg (hp_up_none eg1 (hp_up_none eg3 (hp_up_none eg5 (nq7))))) b_g8
    have b_g17 : g17 b = some e := by rw [eg17]; exact (hp_up_ne _ _ (hb)).trans b_u10
    have b_g20 : g20 b = some e := by rw [eg20]; exact (hp_up_ne _ _ (hp_neN b_g17 nq19)).trans b_g17
    have b_g23 : g23 b = some e := by rw [eg23]; exact (hp_up_ne _ _ (hb)).trans b_g20
    have b_g26 : g26 b = some e := by rw [eg26]; exact (hp_up_ne _ _ (hp_neN b_g23 nq25)).trans b_g23
    have b_g29 : g29 b = some e := by rw [eg29]; exact (hp_up_ne _ _ (hb)).trans b_g26
    have b_g54 : g54 b = some e := by rw [eg54]; exact (hp_up_ne _ _ (hb)).trans b_g29
    have b_g56 : g56 b = some e := by rw [eg56]; exact (hp_up_ne _ _ (hb)).trans b_g54
    have b_g58 : g58 b = some e := by rw [eg58]; exact (hp_up_ne _ _ (hb)).trans b_g56
    exact b_g58
  exact hp_vret cx hw (⟨hxt, (fun k => match k with | 3 => q7 | 4 => q19 | 5 => q25 | 13 => (p13 1) | _ => 0), f59, f67, hp_up_none eg1 (hp_up_none eg3 (hp_up_none eg5 (nq7)))⟩) dX4_init_68
