set_option maxHeartbeats 4000000 in
theorem k_Latin1_indexOfChar (l : Launch) (D : va_G) (cA : Nat → ClassId) (E : hp_N) (sz : Nat) (g : hp_M) (q v n : Nat) (b : Nat → Int32) (hst : st_str E q v n b) (hn : n < 2 ^ 31) (ch : Int32) (f0 : Nat) (hf : f0 ≤ n) : Met l yJ1_indexOfChar_4cfef wsJ1_indexOfChar_4cfef ({ frames := 0, cells := 0, slots := 0, locals := 0 }) (hp_Pc D vwCl (hp_Tl cA) E sz g [.ref v, .int ch, .int (nI f0), .int (nI n)]) (hp_Qi D vwCl (hp_Tl cA) sz g (fun r u => u = g ∧ r = st_fc b ch.toInt8.toInt32 (n - f0) f0)) 0 0 (hp_A g sz) := by
  refine hp_ofW (cc := cJ1_indexOfChar_4cfef) (maxL := 6) (ret := (some .int)) (by decide) rfl (Nat.le_of_ble_eq_true rfl) ?_
  intro pp ee ss mm bb mt cd ls cx hsz hw hl
  have hl : lv_has ls 6 [(0, .ref v), (1, .int ch), (2, .int (nI f0)), (3, .int (nI n))] := hl
  refine lv_iload_n cx.1 cx.2.1 dJ1_indexOfChar_4cfef_0 rfl (lv_at hl 1 rfl) ?_
  refine lv_i2b (v := ch.toInt8.toInt32) cx.1 cx.2.1 dJ1_indexOfChar_4cfef_1 rfl ?_
  refine lv_istore (lv' := [(4, .int ch.toInt8.toInt32), (0, .ref v), (1, .int ch), (2, .int (nI f0)), (3, .int (nI n))]) cx.1 cx.2.1 dJ1_indexOfChar_4cfef_2 hl (by decide) rfl (fun ls hl => ?_)
  refine lv_iload_n cx.1 cx.2.1 dJ1_indexOfChar_4cfef_4 rfl (lv_at hl 3 rfl) ?_
  refine lv_istore (lv' := [(5, .int (nI f0)), (4, .int ch.toInt8.toInt32), (0, .ref v), (1, .int ch), (2, .int (nI f0)), (3, .int (nI n))]) cx.1 cx.2.1 dJ1_indexOfChar_4cfef_5 hl (by decide) rfl (fun ls hl => ?_)
  have loop : ∀ (j i : Nat) (H : Heap) (locs : List Loc) (ls : Array Slot), i + j = n → st_fc b ch.toInt8.toInt32 j i = st_fc b ch.toInt8.toInt32 (n - f0) f0 → hp_w D vwCl (hp_Tl cA) E (hp_A g sz) ss H locs g → lv_has ls 6 [(5, .int (nI i)), (4, .int ch.toInt8.toInt32), (0, .ref v), (3, .int (nI n))] → W pp l ee ({ frames := 0, cells := 0, slots := 0, locals := 0 }) ss mm [.ref v, .int ch, .int (nI f0), .int (nI n)].toArray bb mt cd H locs 0 0 (MQ bb (hp_Qi D vwCl (hp_Tl cA) sz g (fun r u => u = g ∧ r = st_fc b ch.toInt8.toInt32 (n - f0) f0)) [.ref v, .int ch, .int (nI f0), .int (nI n)].toArray ss 0 0 (hp_A g sz)) (F0 mm 7 ls []) := by
    intro j
    induction j with
    | zero =>
      intro i H locs ls hij he hw hl
      obtain rfl : i = n := by omega
      refine lv_iload cx.1 cx.2.1 dJ1_indexOfChar_4cfef_7 (lv_at hl 0 rfl) ?_
      refine lv_iload_n cx.1 cx.2.1 dJ1_indexOfChar_4cfef_9 rfl (lv_at hl 3 rfl) ?_
      refine lv_icmp_ge (tgt := 31) cx.1 cx.2.1 dJ1_indexOfChar_4cfef_10 (by decide) (fun c10 => ?_) (fun c10 => ?_)
      · refine lv_iconst (v := (-1)) cx.1 cx.2.1 dJ1_indexOfChar_4cfef_31 (by decide) ?_
        exact hp_iret cx hw ⟨rfl, he⟩ dJ1_indexOfChar_4cfef_32
      · exact absurd (Int32.le_refl _) c10
    | succ j ih =>
      intro i H locs ls hij he hw hl
      have hlt : i < n := by omega
      refine lv_iload cx.1 cx.2.1 dJ1_indexOfChar_4cfef_7 (lv_at hl 0 rfl) ?_
      refine lv_iload_n cx.1 cx.2.1 dJ1_indexOfChar_4cfef_9 rfl (lv_at hl 3 rfl) ?_
      refine lv_icmp_ge (tgt := 31) cx.1 cx.2.1 dJ1_indexOfChar_4cfef_10 (by decide) (fun c10 => ?_) (fun c10 => ?_)
      · exact absurd c10 (nI_ge hlt hn)
      refine lv_aload_n cx.1 cx.2.1 dJ1_indexOfChar_4cfef_13 rfl (lv_at hl 2 rfl) ?_
      refine lv_iload cx.1 cx.2.1 dJ1_indexOfChar_4cfef_14 (lv_at hl 0 rfl) ?_
      refine va_tb (v := .int (b i)) cx.1 cx.2.1 (hst _ _ _ hw.2.2.2.2.2).2.2.2 hw.2.1 (vp_in_nI hlt hn) (by rw [nI_clamp (by omega)]) dJ1_indexOfChar_4cfef_16 ?_
      refine lv_iload cx.1 cx.2.1 dJ1_indexOfChar_4cfef_17 (lv_at hl 1 rfl) ?_
      refine lv_icmp_ne (tgt := 25) cx.1 cx.2.1 dJ1_indexOfChar_4cfef_19 (by decide) (fun c19 => ?_) (fun c19 => ?_)
      · refine lv_iinc (v := (nI (i + 1))) (lv' := [(5, .int (nI (i + 1))), (4, .int ch.toInt8.toInt32), (0, .ref v), (3, .int (nI n))]) cx.1 cx.2.1 dJ1_indexOfChar_4cfef_25 hl (k := 0) rfl (nI_1 i) (by decide) rfl (fun ls hl => ?_)
        refine lv_goto (tgt := 7) cx.1 cx.2.1 dJ1_indexOfChar_4cfef_28 (by decide) ?_
        exact ih (i + 1) H locs ls (by omega) (by rw [← he]; show _ = (if b i = _ then _ else _); rw [if_neg c19]) hw hl
      · refine lv_iload cx.1 cx.2.1 dJ1_indexOfChar_4cfef_22 (lv_at hl 0 rfl) ?_
        exact hp_iret cx hw ⟨rfl, by rw [← he]; show _ = (if b i = _ then _ else _); rw [if_pos c19]⟩ dJ1_indexOfChar_4cfef_24
  exact loop (n - f0) f0 _ _ _ (by omega) rfl hw (lv_sub hl [0, 1, 2, 5] rfl)

set_option maxHeartbeats 4000000 in
set_option maxRecDepth 100000 in
theorem k_canEncode (l : Launch) (D : va_G) (cA : Nat → ClassId) (E : hp_N) (sz : Nat) (g : hp_M) (ch : Int32) (h0 : ¬ ch < 0) (h1 : ¬ 255 < ch) : Met l yJ1_canEncode_9a6ad wsJ1_canEncode_9a6ad ({ frames := 0, cells := 0, slots := 0, locals := 0 }) (hp_Pc D vwCl (hp_Tl cA) E sz g [.int ch]) (hp_Qi D vwCl (hp_Tl cA) sz g (fun r u => u = g ∧ r = 1)) 0 0 (hp_A g sz) := by
  refine hp_ofW (cc := cJ1_canEncode_9a6ad) (maxL := 1) (ret := (some .boolean)) (by decide) rfl (Nat.le_of_ble_eq_true rfl) ?_
  intro pp ee ss mm bb mt cd ls cx hsz hw hl
  have hl : lv_has ls 1 [(0, .int ch)] := hl
  refine lv_iload_n cx.1 cx.2.1 dJ1_canEncode_9a6ad_0 rfl (lv_at hl 0 rfl) ?_
  refine lv_if_lt (tgt := 15) cx.1 cx.2.1 dJ1_canEncode_9a6ad_1 (by decide) (fun c1_1 => ?_) (fun c1_1 => ?_)
  · exact absurd c1_1 (h0)
  refine lv_iload_n cx.1 cx.2.1 dJ1_canEncode_9a6ad_4 rfl (lv_at hl 0 rfl) ?_
  refine lv_sipush (v := 255) cx.1 cx.2.1 dJ1_canEncode_9a6ad_5 (by decide) ?_
  refine lv_icmp_gt (tgt := 15) cx.1 cx.2.1 dJ1_canEncode_9a6ad_8 (by decide) (fun c8_2 => ?_) (fun c8_2 => ?_)
  · exact absurd c8_2 (h1)
  refine lv_iconst (v := 1) cx.1 cx.2.1 dJ1_canEncode_9a6ad_11 (by decide) ?_
  refine lv_goto (tgt := 16) cx.1 cx.2.1 dJ1_canEncode_9a6ad_12 (by decide) ?_
  exact hp_zret cx hw (⟨rfl, rfl⟩) (by decide) dJ1_canEncode_9a6ad_16

theorem m_J1_indexOf_4cfef_l92 : Cond.methodLink RJ1 92 Lib.Math.max.name ∈ wsJ1_indexOf_4cfef := by decide +kernel
theorem m_J1_indexOf_4cfef_j92 : Cond.static Lib.Math.max.name ∈ wsJ1_indexOf_4cfef := by decide +kernel
theorem m_J1_indexOf_4cfef_zMath : Cond.initialized "java/lang/Math" ∈ wsJ1_indexOf_4cfef := by decide +kernel
theorem m_J1_indexOf_4cfef_cmax : Cond.code Lib.Math.max.name Lib.Math.max.code 2 (some .int) ∈ wsJ1_indexOf_4cfef := by decide +kernel
theorem m_J1_indexOf_4cfef_l38 : Cond.methodLink RJ1 38 Lib.Math.min.name ∈ wsJ1_indexOf_4cfef := by decide +kernel
theorem m_J1_indexOf_4cfef_j38 : Cond.static Lib.Math.min.name ∈ wsJ1_indexOf_4cfef := by decide +kernel
theorem m_J1_indexOf_4cfef_cmin : Cond.code Lib.Math.min.name Lib.Math.min.code 2 (some .int) ∈ wsJ1_indexOf_4cfef := by decide +kernel
set_option maxHeartbeats 4000000 in
set_option maxRecDepth 100000 in
theorem k_Latin1_indexOf (l : Launch) (D : va_G) (cA : Nat → ClassId) (E : hp_N) (sz : Nat) (g : hp_M) (q v n : Nat) (b : Nat → Int32) (hst : st_str E q v n b) (hn : n < 2 ^ 31) (ch : Int32) (h0 : ¬ ch < 0) (h1 : ¬ 255 < ch) (f0 : Nat) (hlt : f0 < n) : Met l yJ1_indexOf_4cfef wsJ1_indexOf_4cfef ({ frames := 1, cells := 0, slots := 0, locals := 60 }) (hp_Pc D vwCl (hp_Tl cA) E sz g [.ref v, .int ch, .int (nI f0), .int (nI n)]) (hp_Qi D vwCl (hp_Tl cA) sz g (fun r u => u = g ∧ r = st_fc b ch.toInt8.toInt32 (n - f0) f0)) 0 0 (hp_A g sz) := by
  refine hp_ofW (cc := cJ1_indexOf_4cfef) (maxL := 4) (ret := (some .int)) (by decide) rfl (Nat.le_of_ble_eq_true rfl) ?_
  intro pp ee ss mm bb mt cd ls cx hsz hw hl
  have hl : lv_has ls 4 [(0, .ref v), (1, .int ch), (2, .int (nI f0)), (3, .int (nI n))] := hl
  refine lv_iload_n cx.1 cx.2.1 dJ1_indexOf_4cfef_0 rfl (lv_at hl 1 rfl) ?_
  refine hp_callSi (As := [.int ch]) (rest := []) cx hw (k_canEncode l D cA E _ g ch h0 h1) (cwS 1 cx.2.2.2.2.2.1 gJ1_indexOf_4cfef_J1_canEncode_9a6ad rfl rfl rfl (by decide +kernel) ⟨Nat.le_of_ble_eq_true rfl, Nat.le_of_ble_eq_true rfl⟩) rfl hl.1 rfl (Nat.le_of_ble_eq_true rfl) dJ1_indexOf_4cfef_1 ⟨Nat.le_of_ble_eq_true rfl, Nat.le_of_ble_eq_true rfl⟩ (fun r2 u1 H locs hp3 hw => ?_)
  obtain ⟨euu1, err2⟩ := hp3
  rw [euu1] at hw
  subst err2
  refine lv_if_ne (tgt := 9) cx.1 cx.2.1 dJ1_indexOf_4cfef_4 (by decide) (fun c4_4 => ?_) (fun c4_4 => ?_)
  rotate_left
  · exact absurd c4_4 (by decide)
  refine lv_iload_n cx.1 cx.2.1 dJ1_indexOf_4cfef_9 rfl (lv_at hl 2 rfl) ?_
  refine lv_iconst (v := 0) cx.1 cx.2.1 dJ1_indexOf_4cfef_10 (by decide) ?_
  refine va_mmax cx.1 cx.2.1 (by rw [cx.2.2.2.1]; exact hl.1.symm) cx.2.2.2.2.1 (cx.2.2.2.2.2.1 _ m_J1_indexOf_4cfef_l92) (cx.2.2.2.2.2.1 _ m_J1_indexOf_4cfef_j92) (cx.2.2.2.2.2.1 _ m_J1_indexOf_4cfef_zMath) (cx.2.2.2.2.2.1 _ m_J1_indexOf_4cfef_cmax) (Nat.le_of_ble_eq_true rfl) (Nat.le_of_ble_eq_true rfl) (Nat.zero_le _) (Nat.zero_le _) dJ1_indexOf_4cfef_11 ?_
  rw [show (if nI f0 < 0 then (0 : Int32) else nI f0) = nI f0 from if_neg (nI_pos (Nat.lt_trans hlt hn))]
  refine lv_istore_n (lv' := [(2, .int (nI f0)), (0, .ref v), (1, .int ch), (3, .int (nI n))]) cx.1 cx.2.1 dJ1_indexOf_4cfef_14 rfl hl (by decide) rfl (fun ls hl => ?_)
  refine lv_iload_n cx.1 cx.2.1 dJ1_indexOf_4cfef_15 rfl (lv_at hl 3 rfl) ?_
  refine lv_aload_n cx.1 cx.2.1 dJ1_indexOf_4cfef_16 rfl (lv_at hl 1 rfl) ?_
  refine va_tlen (v := (nI n)) cx.1 cx.2.1 (hst _ _ _ hw.2.2.2.2.2).2.2.2 hw.2.1 rfl dJ1_indexOf_4cfef_17 ?_
  refine va_mmin cx.1 cx.2.1 (by rw [cx.2.2.2.1]; exact hl.1.symm) cx.2.2.2.2.1 (cx.2.2.2.2.2.1 _ m_J1_indexOf_4cfef_l38) (cx.2.2.2.2.2.1 _ m_J1_indexOf_4cfef_j38) (cx.2.2.2.2.2.1 _ m_J1_indexOf_4cfef_zMath) (cx.2.2.2.2.2.1 _ m_J1_indexOf_4cfef_cmin) (Nat.le_of_ble_eq_true rfl) (Nat.le_of_ble_eq_true rfl) (Nat.zero_le _) (Nat.zero_le _) dJ1_indexOf_4cfef_18 ?_
  rw [show (if nI n < nI n then nI n else nI n) = nI n from ite_self _]
  refine lv_istore_n (lv' := [(3, .int (nI n)), (2, .int (nI f0)), (0, .ref v), (1, .int ch)]) cx.1 cx.2.1 dJ1_indexOf_4cfef_21 rfl hl (by decide) rfl (fun ls hl => ?_)
  refine lv_iload_n cx.1 cx.2.1 dJ1_indexOf_4cfef_22 rfl (lv_at hl 1 rfl) ?_
  refine lv_iload_n cx.1 cx.2.1 dJ1_indexOf_4cfef_23 rfl (lv_at hl 0 rfl) ?_
  refine lv_icmp_lt (tgt := 29) cx.1 cx.2.1 dJ1_indexOf_4cfef_24 (by decide) (fun c24_5 => ?_) (fun c24_5 => ?_)
  rotate_left
  · exact absurd (nI_lt hlt hn) c24_5
  refine lv_aload_n cx.1 cx.2.1 dJ1_indexOf_4cfef_29 rfl (lv_at hl 2 rfl) ?_
  refine lv_iload_n cx.1 cx.2.1 dJ1_indexOf_4cfef_30 rfl (lv_at hl 3 rfl) ?_
  refine lv_iload_n cx.1 cx.2.1 dJ1_indexOf_4cfef_31 rfl (lv_at hl 1 rfl) ?_
  refine lv_iload_n cx.1 cx.2.1 dJ1_indexOf_4cfef_32 rfl (lv_at hl 0 rfl) ?_
  refine hp_callSi (As := [.ref v, .int ch, .int (nI f0), .int (nI n)]) (rest := []) cx hw (k_Latin1_indexOfChar l D cA E _ g q v n b hst hn ch f0 (Nat.le_of_lt hlt)) (cwS 4 cx.2.2.2.2.2.1 gJ1_indexOf_4cfef_J1_indexOfChar_4cfef rfl rfl rfl (by decide +kernel) ⟨Nat.le_of_ble_eq_true rfl, Nat.le_of_ble_eq_true rfl⟩) rfl hl.1 rfl (Nat.le_of_ble_eq_true rfl) dJ1_indexOf_4cfef_33 ⟨Nat.le_of_ble_eq_true rfl, Nat.le_of_ble_eq_true rfl⟩ (fun r7 u6 H locs hp8 hw => ?_)
  obtain ⟨euu6, err7⟩ := hp8
  rw [euu6] at hw
  subst err7
  exact hp_iret cx hw (⟨rfl, rfl⟩) dJ1_indexOf_4cfef_36

theorem m_J0_indexOf_7cf53_f9 : Cond.fieldLink RJ0 9 "java/lang/String" "value" "[B" ∈ wsJ0_indexOf_7cf53 := by decide +kernel
set_option maxHeartbeats 4000000 in
set_option maxRecDepth 100000 in
theorem k_Str_indexOf2 (l : Launch) (D : va_G) (cA : Nat → ClassId) (E : hp_N) (sz : Nat) (g : hp_M) (hcs : st_cs E) (q v n : Nat) (b : Nat → Int32) (hst : st_str E q v n b) (hn : n < 2 ^ 31) (ch : Int32) (h0 : ¬ ch < 0) (h1 : ¬ 255 < ch) (f0 : Nat) (hlt : f0 < n) : Met l yJ0_indexOf_7cf53 wsJ0_indexOf_7cf53 ({ frames := 2, cells := 0, slots := 0, locals := 110 }) (hp_Pc D vwCl (hp_Tl cA) E sz g [.ref q, .int ch, .int (nI f0)]) (hp_Qi D vwCl (hp_Tl cA) sz g (fun r u => u = g ∧ r = st_fc b ch.toInt8.toInt32 (n - f0) f0)) 0 0 (hp_A g sz) := by
  refine hp_ofW (cc := cJ0_indexOf_7cf53) (maxL := 3) (ret := (some .int)) (by decide) rfl (Nat.le_of_ble_eq_true rfl) ?_
  intro pp ee ss mm bb mt cd ls cx hsz hw hl
  have hl : lv_has ls 3 [(0, .ref q), (1, .int ch), (2, .int (nI f0))] := hl
  refine lv_aload_n cx.1 cx.2.1 dJ0_indexOf_7cf53_0 rfl (lv_at hl 0 rfl) ?_
  refine hp_callKi (As := []) (rest := []) cx hw (k_Str_isLatin1 l D cA E _ g hcs q v n b hst hn) (cwV 0 cx.2.2.2.2.2.1 gJ0_indexOf_7cf53_J0_isLatin1_aae02 rfl rfl rfl (by decide +kernel) ⟨Nat.le_of_ble_eq_true rfl, Nat.le_of_ble_eq_true rfl⟩) (hst _ _ _ hw.2.2.2.2.2).1 rfl hl.1 rfl (Nat.le_of_ble_eq_true rfl) dJ0_indexOf_7cf53_1 ⟨Nat.le_of_ble_eq_true rfl, Nat.le_of_ble_eq_true rfl⟩ (fun r2 u1 H locs hp3 hw => ?_)
  obtain ⟨euu1, err2⟩ := hp3
  rw [euu1] at hw
  subst err2
  refine lv_if_eq (tgt := 23) cx.1 cx.2.1 dJ0_indexOf_7cf53_4 (by decide) (fun c4_4 => ?_) (fun c4_4 => ?_)
  · exact absurd c4_4 (by decide)
  refine lv_aload_n cx.1 cx.2.1 dJ0_indexOf_7cf53_7 rfl (lv_at hl 0 rfl) ?_
  refine vk_getf cx.1 cx.2.1 (hst _ _ _ hw.2.2.2.2.2).2.2.1 hw.2.1 cx.2.2.2.2.1 (cx.2.2.2.2.2.1 _ m_J0_indexOf_7cf53_f9) (fun _ h => h) dJ0_indexOf_7cf53_8 ?_
  refine lv_iload_n cx.1 cx.2.1 dJ0_indexOf_7cf53_11 rfl (lv_at hl 1 rfl) ?_
  refine lv_iload_n cx.1 cx.2.1 dJ0_indexOf_7cf53_12 rfl (lv_at hl 2 rfl) ?_
  refine lv_aload_n cx.1 cx.2.1 dJ0_indexOf_7cf53_13 rfl (lv_at hl 0 rfl) ?_
  refine hp_callKi (As := []) (rest := [.int (nI f0), .int ch, .ref v]) cx hw (k_Str_length l D cA E _ g hcs q v n b hst hn) (cwV 0 cx.2.2.2.2.2.1 gJ0_indexOf_7cf53_J0_length_8abf5 rfl rfl rfl (by decide +kernel) ⟨Nat.le_of_ble_eq_true rfl, Nat.le_of_ble_eq_true rfl⟩) (hst _ _ _ hw.2.2.2.2.2).1 rfl hl.1 rfl (Nat.le_of_ble_eq_true rfl) dJ0_indexOf_7cf53_14 ⟨Nat.le_of_ble_eq_true rfl, Nat.le_of_ble_eq_true rfl⟩ (fun r6 u5 H locs hp7 hw => ?_)
  obtain ⟨euu5, err6⟩ := hp7
  rw [euu5] at hw
  subst err6
  refine hp_callSi (As := [.ref v, .int ch, .int (nI f0), .int (nI n)]) (rest := []) cx hw (k_Latin1_indexOf l D cA E _ g q v n b hst hn ch h0 h1 f0 hlt) (va_cwS 4 cx.2.2.2.2.2.1 gJ0_indexOf_7cf53_J1_indexOf_4cfef rfl rfl rfl (by decide +kernel) ⟨Nat.le_of_ble_eq_true rfl, Nat.le_of_ble_eq_true rfl⟩) rfl hl.1 rfl (Nat.le_of_ble_eq_true rfl) dJ0_indexOf_7cf53_17 ⟨Nat.le_of_ble_eq_true rfl, Nat.le_of_ble_eq_true rfl⟩ (fun r9 u8 H locs hp10 hw => ?_)
  obtain ⟨euu8, err9⟩ := hp10
  rw [euu8] at hw
  subst err9
  refine lv_goto (tgt := 36) cx.1 cx.2.1 dJ0_indexOf_7cf53_20 (by decide) ?_
  exact hp_iret cx hw (⟨rfl, rfl⟩) dJ0_indexOf_7cf53_36

set_option maxHeartbeats 4000000 in
set_option maxRecDepth 100000 in
theorem k_Str_indexOf1 (l : Launch) (D : va_G) (cA : Nat → ClassId) (E : hp_N) (sz : Nat) (g : hp_M) (hcs : st_cs E) (q v n : Nat) (b : Nat → Int32) (hst : st_str E q v n b) (hn : n < 2 ^ 31) (ch : Int32) (h0 : ¬ ch < 0) (h1 : ¬ 255 < ch) (hlt : 0 < n) : Met l yJ0_indexOf_0f7a4 wsJ0_indexOf_0f7a4 ({ frames := 3, cells := 0, slots := 0, locals := 150 }) (hp_Pc D vwCl (hp_Tl cA) E sz g [.ref q, .int ch]) (hp_Qi D vwCl (hp_Tl cA) sz g (fun r u => u = g ∧ r = st_fc b ch.toInt8.toInt32 n 0)) 0 0 (hp_A g sz) := by
  refine hp_ofW (cc := cJ0_indexOf_0f7a4) (maxL := 2) (ret := (some .int)) (by decide) rfl (Nat.le_of_ble_eq_true rfl) ?_
  intro pp ee ss mm bb mt cd ls cx hsz hw hl
  have hl : lv_has ls 2 [(0, .ref q), (1, .int ch)] := hl
  refine lv_aload_n cx.1 cx.2.1 dJ0_indexOf_0f7a4_0 rfl (lv_at hl 0 rfl) ?_
  refine lv_iload_n cx.1 cx.2.1 dJ0_indexOf_0f7a4_1 rfl (lv_at hl 1 rfl) ?_
  refine lv_iconst (v := 0) cx.1 cx.2.1 dJ0_indexOf_0f7a4_2 (by decide) ?_
  refine hp_callKi (As := [.int ch, .int 0]) (rest := []) cx hw (k_Str_indexOf2 l D cA E _ g hcs q v n b hst hn ch h0 h1 0 hlt) (cwV 2 cx.2.2.2.2.2.1 gJ0_indexOf_0f7a4_J0_indexOf_7cf53 rfl rfl rfl (by decide +kernel) ⟨Nat.le_of_ble_eq_true rfl, Nat.le_of_ble_eq_true rfl⟩) (hst _ _ _ hw.2.2.2.2.2).1 rfl hl.1 rfl (Nat.le_of_ble_eq_true rfl) dJ0_indexOf_0f7a4_3 ⟨Nat.le_of_ble_eq_true rfl, Nat.le_of_ble_eq_true rfl⟩ (fun r2 u1 H locs hp3 hw => ?_)
  obtain ⟨euu1, err2⟩ := hp3
  rw [euu1] at hw
  subst err2
  exact hp_iret cx hw (⟨rfl, rfl⟩) dJ0_indexOf_0f7a4_6
