theorem m_J0_coder_7d493_f38 : Cond.fieldLink RJ0 38 "java/lang/String" "COMPACT_STRINGS" "Z" ∈ wsJ0_coder_7d493 := by decide +kernel
theorem m_J0_coder_7d493_f15 : Cond.fieldLink RJ0 15 "java/lang/String" "coder" "B" ∈ wsJ0_coder_7d493 := by decide +kernel
set_option maxHeartbeats 4000000 in
set_option maxRecDepth 100000 in
theorem k_Str_coder (l : Launch) (D : va_G) (cA : Nat → ClassId) (E : hp_N) (sz : Nat) (g : hp_M) (hcs : st_cs E) (q v n : Nat) (b : Nat → Int32) (hst : st_str E q v n b) (hn : n < 2 ^ 31) : Met l yJ0_coder_7d493 wsJ0_coder_7d493 ({ frames := 0, cells := 0, slots := 0, locals := 0 }) (hp_Pc D vwCl (hp_Tl cA) E sz g [.ref q]) (hp_Qi D vwCl (hp_Tl cA) sz g (fun r u => u = g ∧ r = 0)) 0 0 (hp_A g sz) := by
  refine hp_ofW (cc := cJ0_coder_7d493) (maxL := 1) (ret := (some .byte)) (by decide) rfl (Nat.le_of_ble_eq_true rfl) ?_
  intro pp ee ss mm bb mt cd ls cx hsz hw hl
  have hl : lv_has ls 1 [(0, .ref q)] := hl
  refine va_gets cx.1 cx.2.1 (hcs _ _ _ hw.2.2.2.2.2) hw.2.1 cx.2.2.2.2.1 (cx.2.2.2.2.2.1 _ m_J0_coder_7d493_f38) (fun _ h => h) dJ0_coder_7d493_0 ?_
  refine lv_if_eq (tgt := 13) cx.1 cx.2.1 dJ0_coder_7d493_3 (by decide) (fun c3_1 => ?_) (fun c3_1 => ?_)
  · exact absurd c3_1 (by decide)
  refine lv_aload_n cx.1 cx.2.1 dJ0_coder_7d493_6 rfl (lv_at hl 0 rfl) ?_
  refine vk_getf cx.1 cx.2.1 (hst _ _ _ hw.2.2.2.2.2).2.1 hw.2.1 cx.2.2.2.2.1 (cx.2.2.2.2.2.1 _ m_J0_coder_7d493_f15) (fun _ h => h) dJ0_coder_7d493_7 ?_
  refine lv_goto (tgt := 14) cx.1 cx.2.1 dJ0_coder_7d493_10 (by decide) ?_
  exact hp_nret cx hw (⟨rfl, rfl⟩) (by decide) dJ0_coder_7d493_14

theorem m_J0_isLatin1_aae02_f38 : Cond.fieldLink RJ0 38 "java/lang/String" "COMPACT_STRINGS" "Z" ∈ wsJ0_isLatin1_aae02 := by decide +kernel
theorem m_J0_isLatin1_aae02_f15 : Cond.fieldLink RJ0 15 "java/lang/String" "coder" "B" ∈ wsJ0_isLatin1_aae02 := by decide +kernel
set_option maxHeartbeats 4000000 in
set_option maxRecDepth 100000 in
theorem k_Str_isLatin1 (l : Launch) (D : va_G) (cA : Nat → ClassId) (E : hp_N) (sz : Nat) (g : hp_M) (hcs : st_cs E) (q v n : Nat) (b : Nat → Int32) (hst : st_str E q v n b) (hn : n < 2 ^ 31) : Met l yJ0_isLatin1_aae02 wsJ0_isLatin1_aae02 ({ frames := 0, cells := 0, slots := 0, locals := 0 }) (hp_Pc D vwCl (hp_Tl cA) E sz g [.ref q]) (hp_Qi D vwCl (hp_Tl cA) sz g (fun r u => u = g ∧ r = 1)) 0 0 (hp_A g sz) := by
  refine hp_ofW (cc := cJ0_isLatin1_aae02) (maxL := 1) (ret := (some .boolean)) (by decide) rfl (Nat.le_of_ble_eq_true rfl) ?_
  intro pp ee ss mm bb mt cd ls cx hsz hw hl
  have hl : lv_has ls 1 [(0, .ref q)] := hl
  refine va_gets cx.1 cx.2.1 (hcs _ _ _ hw.2.2.2.2.2) hw.2.1 cx.2.2.2.2.1 (cx.2.2.2.2.2.1 _ m_J0_isLatin1_aae02_f38) (fun _ h => h) dJ0_isLatin1_aae02_0 ?_
  refine lv_if_eq (tgt := 17) cx.1 cx.2.1 dJ0_isLatin1_aae02_3 (by decide) (fun c3_1 => ?_) (fun c3_1 => ?_)
  · exact absurd c3_1 (by decide)
  refine lv_aload_n cx.1 cx.2.1 dJ0_isLatin1_aae02_6 rfl (lv_at hl 0 rfl) ?_
  refine vk_getf cx.1 cx.2.1 (hst _ _ _ hw.2.2.2.2.2).2.1 hw.2.1 cx.2.2.2.2.1 (cx.2.2.2.2.2.1 _ m_J0_isLatin1_aae02_f15) (fun _ h => h) dJ0_isLatin1_aae02_7 ?_
  refine lv_if_ne (tgt := 17) cx.1 cx.2.1 dJ0_isLatin1_aae02_10 (by decide) (fun c10_2 => ?_) (fun c10_2 => ?_)
  · exact absurd c10_2 (by decide)
  refine lv_iconst (v := 1) cx.1 cx.2.1 dJ0_isLatin1_aae02_13 (by decide) ?_
  refine lv_goto (tgt := 18) cx.1 cx.2.1 dJ0_isLatin1_aae02_14 (by decide) ?_
  exact hp_zret cx hw (⟨rfl, rfl⟩) (by decide) dJ0_isLatin1_aae02_18

theorem m_J0_length_8abf5_f9 : Cond.fieldLink RJ0 9 "java/lang/String" "value" "[B" ∈ wsJ0_length_8abf5 := by decide +kernel
set_option maxHeartbeats 4000000 in
set_option maxRecDepth 100000 in
theorem k_Str_length (l : Launch) (D : va_G) (cA : Nat → ClassId) (E : hp_N) (sz : Nat) (g : hp_M) (hcs : st_cs E) (q v n : Nat) (b : Nat → Int32) (hst : st_str E q v n b) (hn : n < 2 ^ 31) : Met l yJ0_length_8abf5 wsJ0_length_8abf5 ({ frames := 1, cells := 0, slots := 0, locals := 21 }) (hp_Pc D vwCl (hp_Tl cA) E sz g [.ref q]) (hp_Qi D vwCl (hp_Tl cA) sz g (fun r u => u = g ∧ r = nI n)) 0 0 (hp_A g sz) := by
  refine hp_ofW (cc := cJ0_length_8abf5) (maxL := 1) (ret := (some .int)) (by decide) rfl (Nat.le_of_ble_eq_true rfl) ?_
  intro pp ee ss mm bb mt cd ls cx hsz hw hl
  have hl : lv_has ls 1 [(0, .ref q)] := hl
  refine lv_aload_n cx.1 cx.2.1 dJ0_length_8abf5_0 rfl (lv_at hl 0 rfl) ?_
  refine vk_getf cx.1 cx.2.1 (hst _ _ _ hw.2.2.2.2.2).2.2.1 hw.2.1 cx.2.2.2.2.1 (cx.2.2.2.2.2.1 _ m_J0_length_8abf5_f9) (fun _ h => h) dJ0_length_8abf5_1 ?_
  refine va_tlen (v := (nI n)) cx.1 cx.2.1 (hst _ _ _ hw.2.2.2.2.2).2.2.2 hw.2.1 rfl dJ0_length_8abf5_4 ?_
  refine lv_aload_n cx.1 cx.2.1 dJ0_length_8abf5_5 rfl (lv_at hl 0 rfl) ?_
  refine hp_callKi (As := []) (rest := [.int (nI n)]) cx hw (k_Str_coder l D cA E _ g hcs q v n b hst hn) (cwV 0 cx.2.2.2.2.2.1 gJ0_length_8abf5_J0_coder_7d493 rfl rfl rfl (by decide +kernel) ⟨Nat.le_of_ble_eq_true rfl, Nat.le_of_ble_eq_true rfl⟩) (hst _ _ _ hw.2.2.2.2.2).1 rfl hl.1 rfl (Nat.le_of_ble_eq_true rfl) dJ0_length_8abf5_6 ⟨Nat.le_of_ble_eq_true rfl, Nat.le_of_ble_eq_true rfl⟩ (fun r2 u1 H locs hp3 hw => ?_)
  obtain ⟨euu1, err2⟩ := hp3
  rw [euu1] at hw
  subst err2
  refine lv_ishr cx.1 cx.2.1 dJ0_length_8abf5_9 ?_
  exact hp_iret cx hw (⟨rfl, sc_shr0 hn⟩) dJ0_length_8abf5_10

set_option maxHeartbeats 4000000 in
set_option maxRecDepth 100000 in
theorem k_checkIndex3N (l : Launch) (D : va_G) (cA : Nat → ClassId) (E : hp_N) (sz : Nat) (g : hp_M) (i n : Int32) (tz : Nat) (h0 : ¬ i < 0) (h1 : i < n) : Met l yJ3_checkIndex_8e157 wsJ3_checkIndex_8e157 ({ frames := 0, cells := 0, slots := 0, locals := 0 }) (hp_Pc D vwCl (hp_Tl cA) E sz g [.int i, .int n, .null]) (hp_Qi D vwCl (hp_Tl cA) sz g (fun r u => u = g ∧ r = i)) 0 0 (hp_A g sz) := by
  refine hp_ofW (cc := cJ3_checkIndex_8e157) (maxL := 3) (ret := (some .int)) (by decide) rfl (Nat.le_of_ble_eq_true rfl) ?_
  intro pp ee ss mm bb mt cd ls cx hsz hw hl
  have hl : lv_has ls 3 [(0, .int i), (1, .int n), (2, .null)] := hl
  refine lv_iload_n cx.1 cx.2.1 dJ3_checkIndex_8e157_0 rfl (lv_at hl 0 rfl) ?_
  refine lv_if_lt (tgt := 9) cx.1 cx.2.1 dJ3_checkIndex_8e157_1 (by decide) (fun c1_1 => ?_) (fun c1_1 => ?_)
  · exact absurd c1_1 (h0)
  refine lv_iload_n cx.1 cx.2.1 dJ3_checkIndex_8e157_4 rfl (lv_at hl 0 rfl) ?_
  refine lv_iload_n cx.1 cx.2.1 dJ3_checkIndex_8e157_5 rfl (lv_at hl 1 rfl) ?_
  refine lv_icmp_lt (tgt := 16) cx.1 cx.2.1 dJ3_checkIndex_8e157_6 (by decide) (fun c6_2 => ?_) (fun c6_2 => ?_)
  rotate_left
  · exact absurd (h1) c6_2
  refine lv_iload_n cx.1 cx.2.1 dJ3_checkIndex_8e157_16 rfl (lv_at hl 0 rfl) ?_
  exact hp_iret cx hw (⟨rfl, rfl⟩) dJ3_checkIndex_8e157_17

set_option maxHeartbeats 4000000 in
set_option maxRecDepth 100000 in
theorem k_checkIndex3R (l : Launch) (D : va_G) (cA : Nat → ClassId) (E : hp_N) (sz : Nat) (g : hp_M) (i n : Int32) (tz : Nat) (h0 : ¬ i < 0) (h1 : i < n) : Met l yJ3_checkIndex_8e157 wsJ3_checkIndex_8e157 ({ frames := 0, cells := 0, slots := 0, locals := 0 }) (hp_Pc D vwCl (hp_Tl cA) E sz g [.int i, .int n, .ref tz]) (hp_Qi D vwCl (hp_Tl cA) sz g (fun r u => u = g ∧ r = i)) 0 0 (hp_A g sz) := by
  refine hp_ofW (cc := cJ3_checkIndex_8e157) (maxL := 3) (ret := (some .int)) (by decide) rfl (Nat.le_of_ble_eq_true rfl) ?_
  intro pp ee ss mm bb mt cd ls cx hsz hw hl
  have hl : lv_has ls 3 [(0, .int i), (1, .int n), (2, .ref tz)] := hl
  refine lv_iload_n cx.1 cx.2.1 dJ3_checkIndex_8e157_0 rfl (lv_at hl 0 rfl) ?_
  refine lv_if_lt (tgt := 9) cx.1 cx.2.1 dJ3_checkIndex_8e157_1 (by decide) (fun c1_1 => ?_) (fun c1_1 => ?_)
  · exact absurd c1_1 (h0)
  refine lv_iload_n cx.1 cx.2.1 dJ3_checkIndex_8e157_4 rfl (lv_at hl 0 rfl) ?_
  refine lv_iload_n cx.1 cx.2.1 dJ3_checkIndex_8e157_5 rfl (lv_at hl 1 rfl) ?_
  refine lv_icmp_lt (tgt := 16) cx.1 cx.2.1 dJ3_checkIndex_8e157_6 (by decide) (fun c6_2 => ?_) (fun c6_2 => ?_)
  rotate_left
  · exact absurd (h1) c6_2
  refine lv_iload_n cx.1 cx.2.1 dJ3_checkIndex_8e157_16 rfl (lv_at hl 0 rfl) ?_
  exact hp_iret cx hw (⟨rfl, rfl⟩) dJ3_checkIndex_8e157_17

theorem m_J0_checkIndex_df160_f1053 : Cond.fieldLink RJ0 1053 "jdk/internal/util/Preconditions" "SIOOBE_FORMATTER" "Ljava/util/function/BiFunction;" ∈ wsJ0_checkIndex_df160 := by decide +kernel
set_option maxHeartbeats 4000000 in
set_option maxRecDepth 100000 in
theorem k_checkIndex2 (l : Launch) (D : va_G) (cA : Nat → ClassId) (E : hp_N) (sz : Nat) (g : hp_M) (hfm : st_fm E) (i n : Int32) (h0 : ¬ i < 0) (h1 : i < n) : Met l yJ0_checkIndex_df160 wsJ0_checkIndex_df160 ({ frames := 1, cells := 0, slots := 0, locals := 22 }) (hp_Pc D vwCl (hp_Tl cA) E sz g [.int i, .int n]) (hp_Qv D vwCl (hp_Tl cA) sz g (fun u => u = g)) 0 0 (hp_A g sz) := by
  refine hp_ofW (cc := cJ0_checkIndex_df160) (maxL := 2) (ret := none) (by decide) rfl (Nat.le_of_ble_eq_true rfl) ?_
  intro pp ee ss mm bb mt cd ls cx hsz hw hl
  have hl : lv_has ls 2 [(0, .int i), (1, .int n)] := hl
  refine lv_iload_n cx.1 cx.2.1 dJ0_checkIndex_df160_0 rfl (lv_at hl 0 rfl) ?_
  refine lv_iload_n cx.1 cx.2.1 dJ0_checkIndex_df160_1 rfl (lv_at hl 1 rfl) ?_
  rcases hfm _ _ _ hw.2.2.2.2.2 with hz | ⟨tz, hz⟩
  · skip
    refine va_gets cx.1 cx.2.1 hz hw.2.1 cx.2.2.2.2.1 (cx.2.2.2.2.2.1 _ m_J0_checkIndex_df160_f1053) (fun _ h => h) dJ0_checkIndex_df160_2 ?_
    refine hp_callSi (As := [.int i, .int n, .null]) (rest := []) cx hw (k_checkIndex3N l D cA E _ g i n 0 h0 h1) (va_cwS 3 cx.2.2.2.2.2.1 gJ0_checkIndex_df160_J3_checkIndex_8e157 rfl rfl rfl (by decide +kernel) ⟨Nat.le_of_ble_eq_true rfl, Nat.le_of_ble_eq_true rfl⟩) rfl hl.1 rfl (Nat.le_of_ble_eq_true rfl) dJ0_checkIndex_df160_5 ⟨Nat.le_of_ble_eq_true rfl, Nat.le_of_ble_eq_true rfl⟩ (fun r2 u1 H locs hp3 hw => ?_)
    obtain ⟨euu1, err2⟩ := hp3
    rw [euu1] at hw
    refine lv_pop cx.1 cx.2.1 dJ0_checkIndex_df160_8 rfl ?_
    exact hp_vret cx hw (rfl) dJ0_checkIndex_df160_9
  · skip
    refine va_gets cx.1 cx.2.1 hz hw.2.1 cx.2.2.2.2.1 (cx.2.2.2.2.2.1 _ m_J0_checkIndex_df160_f1053) (fun _ h => h) dJ0_checkIndex_df160_2 ?_
    refine hp_callSi (As := [.int i, .int n, .ref tz]) (rest := []) cx hw (k_checkIndex3R l D cA E _ g i n tz h0 h1) (va_cwS 3 cx.2.2.2.2.2.1 gJ0_checkIndex_df160_J3_checkIndex_8e157 rfl rfl rfl (by decide +kernel) ⟨Nat.le_of_ble_eq_true rfl, Nat.le_of_ble_eq_true rfl⟩) rfl hl.1 rfl (Nat.le_of_ble_eq_true rfl) dJ0_checkIndex_df160_5 ⟨Nat.le_of_ble_eq_true rfl, Nat.le_of_ble_eq_true rfl⟩ (fun r5 u4 H locs hp6 hw => ?_)
    obtain ⟨euu4, err5⟩ := hp6
    rw [euu4] at hw
    refine lv_pop cx.1 cx.2.1 dJ0_checkIndex_df160_8 rfl ?_
    exact hp_vret cx hw (rfl) dJ0_checkIndex_df160_9

set_option maxHeartbeats 4000000 in
set_option maxRecDepth 100000 in
theorem k_Latin1_charAt (l : Launch) (D : va_G) (cA : Nat → ClassId) (E : hp_N) (sz : Nat) (g : hp_M) (hfm : st_fm E) (hcs : st_cs E) (q v n : Nat) (b : Nat → Int32) (hst : st_str E q v n b) (hn : n < 2 ^ 31) (i : Int32) (h0 : ¬ i < 0) (h1 : i < nI n) : Met l yJ1_charAt_3b067 wsJ1_charAt_3b067 ({ frames := 2, cells := 0, slots := 0, locals := 50 }) (hp_Pc D vwCl (hp_Tl cA) E sz g [.ref v, .int i]) (hp_Qi D vwCl (hp_Tl cA) sz g (fun r u => u = g ∧ r = b i.toNatClampNeg &&& 255)) 0 0 (hp_A g sz) := by
  refine hp_ofW (cc := cJ1_charAt_3b067) (maxL := 2) (ret := (some .char)) (by decide) rfl (Nat.le_of_ble_eq_true rfl) ?_
  intro pp ee ss mm bb mt cd ls cx hsz hw hl
  have hl : lv_has ls 2 [(0, .ref v), (1, .int i)] := hl
  refine lv_iload_n cx.1 cx.2.1 dJ1_charAt_3b067_0 rfl (lv_at hl 1 rfl) ?_
  refine lv_aload_n cx.1 cx.2.1 dJ1_charAt_3b067_1 rfl (lv_at hl 0 rfl) ?_
  refine va_tlen (v := (nI n)) cx.1 cx.2.1 (hst _ _ _ hw.2.2.2.2.2).2.2.2 hw.2.1 rfl dJ1_charAt_3b067_2 ?_
  refine hp_callSv (As := [.int i, .int (nI n)]) (rest := []) cx hw (k_checkIndex2 l D cA E _ g hfm i (nI n) h0 h1) (va_cwS 2 cx.2.2.2.2.2.1 gJ1_charAt_3b067_J0_checkIndex_df160 rfl rfl rfl (by decide +kernel) ⟨Nat.le_of_ble_eq_true rfl, Nat.le_of_ble_eq_true rfl⟩) rfl hl.1 rfl (Nat.le_of_ble_eq_true rfl) dJ1_charAt_3b067_3 ⟨Nat.le_of_ble_eq_true rfl, Nat.le_of_ble_eq_true rfl⟩ (fun u1 H locs hp3 hw => ?_)
  rw [hp3] at hw
  refine lv_aload_n cx.1 cx.2.1 dJ1_charAt_3b067_6 rfl (lv_at hl 0 rfl) ?_
  refine lv_iload_n cx.1 cx.2.1 dJ1_charAt_3b067_7 rfl (lv_at hl 1 rfl) ?_
  refine va_tb (v := .int (b i.toNatClampNeg)) cx.1 cx.2.1 (hst _ _ _ hw.2.2.2.2.2).2.2.2 hw.2.1 (row_in h0 h1 (by rw [nI_toInt hn]; exact Int.le_refl _)) rfl dJ1_charAt_3b067_8 ?_
  refine lv_sipush (v := 255) cx.1 cx.2.1 dJ1_charAt_3b067_9 (by decide) ?_
  refine lv_iand cx.1 cx.2.1 dJ1_charAt_3b067_12 ?_
  refine lv_i2c (v := ((((b i.toNatClampNeg) &&& 255).toUInt32 % 65536).toInt32)) cx.1 cx.2.1 dJ1_charAt_3b067_13 rfl ?_
  exact hp_nret cx hw (⟨rfl, sc_c2 _⟩) (by rw [sc_c2]; exact sc_nar _) dJ1_charAt_3b067_14

theorem m_J0_charAt_5068e_f9 : Cond.fieldLink RJ0 9 "java/lang/String" "value" "[B" ∈ wsJ0_charAt_5068e := by decide +kernel
set_option maxHeartbeats 4000000 in
set_option maxRecDepth 100000 in
theorem k_Str_charAt (l : Launch) (D : va_G) (cA : Nat → ClassId) (E : hp_N) (sz : Nat) (g : hp_M) (hfm : st_fm E) (hcs : st_cs E) (q v n : Nat) (b : Nat → Int32) (hst : st_str E q v n b) (hn : n < 2 ^ 31) (i : Int32) (h0 : ¬ i < 0) (h1 : i < nI n) : Met l yJ0_charAt_5068e wsJ0_charAt_5068e ({ frames := 3, cells := 0, slots := 0, locals := 80 }) (hp_Pc D vwCl (hp_Tl cA) E sz g [.ref q, .int i]) (hp_Qi D vwCl (hp_Tl cA) sz g (fun r u => u = g ∧ r = b i.toNatClampNeg &&& 255)) 0 0 (hp_A g sz) := by
  refine hp_ofW (cc := cJ0_charAt_5068e) (maxL := 2) (ret := (some .char)) (by decide) rfl (Nat.le_of_ble_eq_true rfl) ?_
  intro pp ee ss mm bb mt cd ls cx hsz hw hl
  have hl : lv_has ls 2 [(0, .ref q), (1, .int i)] := hl
  refine lv_aload_n cx.1 cx.2.1 dJ0_charAt_5068e_0 rfl (lv_at hl 0 rfl) ?_
  refine hp_callKi (As := []) (rest := []) cx hw (k_Str_isLatin1 l D cA E _ g hcs q v n b hst hn) (cwV 0 cx.2.2.2.2.2.1 gJ0_charAt_5068e_J0_isLatin1_aae02 rfl rfl rfl (by decide +kernel) ⟨Nat.le_of_ble_eq_true rfl, Nat.le_of_ble_eq_true rfl⟩) (hst _ _ _ hw.2.2.2.2.2).1 rfl hl.1 rfl (Nat.le_of_ble_eq_true rfl) dJ0_charAt_5068e_1 ⟨Nat.le_of_ble_eq_true rfl, Nat.le_of_ble_eq_true rfl⟩ (fun r2 u1 H locs hp3 hw => ?_)
  obtain ⟨euu1, err2⟩ := hp3
  rw [euu1] at hw
  subst err2
  refine lv_if_eq (tgt := 16) cx.1 cx.2.1 dJ0_charAt_5068e_4 (by decide) (fun c4_4 => ?_) (fun c4_4 => ?_)
  · exact absurd c4_4 (by decide)
  refine lv_aload_n cx.1 cx.2.1 dJ0_charAt_5068e_7 rfl (lv_at hl 0 rfl) ?_
  refine vk_getf cx.1 cx.2.1 (hst _ _ _ hw.2.2.2.2.2).2.2.1 hw.2.1 cx.2.2.2.2.1 (cx.2.2.2.2.2.1 _ m_J0_charAt_5068e_f9) (fun _ h => h) dJ0_charAt_5068e_8 ?_
  refine lv_iload_n cx.1 cx.2.1 dJ0_charAt_5068e_11 rfl (lv_at hl 1 rfl) ?_
  refine hp_callSi (As := [.ref v, .int i]) (rest := []) cx hw (k_Latin1_charAt l D cA E _ g hfm hcs q v n b hst hn i h0 h1) (va_cwS 2 cx.2.2.2.2.2.1 gJ0_charAt_5068e_J1_charAt_3b067 rfl rfl rfl (by decide +kernel) ⟨Nat.le_of_ble_eq_true rfl, Nat.le_of_ble_eq_true rfl⟩) rfl hl.1 rfl (Nat.le_of_ble_eq_true rfl) dJ0_charAt_5068e_12 ⟨Nat.le_of_ble_eq_true rfl, Nat.le_of_ble_eq_true rfl⟩ (fun r6 u5 H locs hp7 hw => ?_)
  obtain ⟨euu5, err6⟩ := hp7
  rw [euu5] at hw
  subst err6
  exact hp_nret cx hw (⟨rfl, rfl⟩) (sc_nar _) dJ0_charAt_5068e_15
