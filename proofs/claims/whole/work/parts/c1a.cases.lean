set_option maxHeartbeats 4000000 in
set_option maxRecDepth 100000 in
theorem lc_0 {p : Program} {l : Launch} {e : Env} {s : State} {m : MethodId} {below : List Frame} {meth : Method} {c : Code} {b L k n : Nat} {xs : Nat → Int32} (C0 : lw_At p s m meth c b L xs) (hL : L ≤ 384) (hk : 6 * k + 5 < L) {D : va_G} {cA : Nat → ClassId} {E : hp_N} {oq sgq sgv : Nat} (hG : cd_E E oq sgq sgv) (hM : md_E E) (hX1 : cd_X l E) (hX2 : cd_Y l E) (hnc : ∀ A U H, E A U H → va_Nc "java/lang/IllegalArgumentException" "java/lang/IllegalStateException" U) {ad : Nat → Nat → Nat} {am : Nat → Nat} {o : Nat} {C : Nat × Nat} (hjm : md_inj am) (hC : LC C) (hn : 60000000 ≤ n) (cx : hp_C p c cL_law meth ret 7 s m #[Value.ref b] ⟨RL, meth.name, ""⟩ lw_tbl) {g : hp_M} {H : Heap} {locs : List Loc} {ls : Array Slot} {cells slots : Nat} {bb : cd_B} (hw : hp_w D vwCl (hp_Tl cA) E (fun q => s.heap.size ≤ q) s H locs g) (hI : lw_I n cA ad am o C k g bb) (hl : lv_has ls 7 [(4, .int (nI (6 * k))), (3, .ref o), (2, .ref (am 137)), (1, .ref (ad 11 0)), (0, .ref b)]) (hcc : cells + bb.1 ≤ 600128) (hss : slots + bb.2 ≤ 7301097) (K : lw_K p l e s m below meth c b D cA E ad am o C n k) : W p l e room_1 s m #[Value.ref b] below meth c H locs cells slots (lw_Z below #[Value.ref b] s) (F0 m 124 ls []) := by
  obtain ⟨hx, hb, hr, hml, hown, hts, hX, hbl, hlocks, hgv⟩ := id C0
  have hbA : ¬ (fun q : Nat => s.heap.size ≤ q) b := Nat.not_le.mpr hbl
  obtain ⟨ca, c1, m1, f, hLW, hJ⟩ := hI
  have hk64 : k < 64 := by omega
  obtain ⟨r, c2, m2, e1, e2, hLW2⟩ := law_feed (by omega) hk64 hLW (xs (6 * k + 1)) (xs (6 * k + 2)) (xs (6 * k + 3)) (xs (6 * k + 4)) (xs (6 * k + 5))
  refine lv_aload_n cx.1 cx.2.1 dL_law_124 rfl (lv_at hl 3 rfl) ?_
  refine lw_sc cx hw hX hbl hbA hl (i0 := 4) (i4 := 0) rfl rfl hk hL (j := 1) (by decide) (by decide) dL_law_125 dL_law_126 dL_law_128 dL_law_129 dL_law_130 ?_
  refine lw_sc cx hw hX hbl hbA hl (i0 := 4) (i4 := 0) rfl rfl hk hL (j := 2) (by decide) (by decide) dL_law_131 dL_law_132 dL_law_134 dL_law_135 dL_law_136 ?_
  refine lw_sc cx hw hX hbl hbA hl (i0 := 4) (i4 := 0) rfl rfl hk hL (j := 3) (by decide) (by decide) dL_law_137 dL_law_138 dL_law_140 dL_law_141 dL_law_142 ?_
  refine lw_sc cx hw hX hbl hbA hl (i0 := 4) (i4 := 0) rfl rfl hk hL (j := 4) (by decide) (by decide) dL_law_143 dL_law_144 dL_law_146 dL_law_147 dL_law_148 ?_
  refine lw_sc cx hw hX hbl hbA hl (i0 := 4) (i4 := 0) rfl rfl hk hL (j := 5) (by decide) (by decide) dL_law_149 dL_law_150 dL_law_152 dL_law_153 dL_law_154 ?_
  refine hp_callFj (g1 := cd_pic cA ad ca c1) (As := [.int (xs (6 * k + 1)), .int (xs (6 * k + 2)), .int (xs (6 * k + 3)), .int (xs (6 * k + 4)), .int (xs (6 * k + 5))]) (rest := []) cx hw hJ.2.1 (kc_X11_feed l D cA E _ ad ca hJ.1 oq sgq sgv hG n c1 (xs (6 * k + 1)) (xs (6 * k + 2)) (xs (6 * k + 3)) (xs (6 * k + 4)) (xs (6 * k + 5)) (r, c2) e1) (cwV 5 cx.2.2.2.2.2.1 gl_25 rfl rfl rfl (by decide +kernel) ⟨Nat.le_of_ble_eq_true rfl, Nat.le_of_ble_eq_true rfl⟩) (hJ.2.1 _ _ (cd_atO hJ.1 (by decide) (by decide))) rfl rfl hl.1 rfl (Nat.le_of_ble_eq_true rfl) dL_law_155 ⟨by show cells + 0 ≤ 600128; omega, by show slots + 0 ≤ 7301097; omega⟩ (fun r1 u2 g3 H locs hp4 ha5 hb6 hc7 hw => ?_)
  obtain ⟨er1, ca2, hj2, eu⟩ := hp4
  subst eu
  have hJ1 : lw_J cA ad am o ca2 c2 m1 f g3 := hJ.cls hj2 ha5 hb6 hc7
  refine lv_aload_n cx.1 cx.2.1 dL_law_158 rfl (lv_at hl 2 rfl) ?_
  refine lw_sc cx hw hX hbl hbA hl (i0 := 4) (i4 := 0) rfl rfl hk hL (j := 1) (by decide) (by decide) dL_law_159 dL_law_160 dL_law_162 dL_law_163 dL_law_164 ?_
  refine lw_sc cx hw hX hbl hbA hl (i0 := 4) (i4 := 0) rfl rfl hk hL (j := 2) (by decide) (by decide) dL_law_165 dL_law_166 dL_law_168 dL_law_169 dL_law_170 ?_
  refine lw_sc cx hw hX hbl hbA hl (i0 := 4) (i4 := 0) rfl rfl hk hL (j := 3) (by decide) (by decide) dL_law_171 dL_law_172 dL_law_174 dL_law_175 dL_law_176 ?_
  refine lw_sc cx hw hX hbl hbA hl (i0 := 4) (i4 := 0) rfl rfl hk hL (j := 4) (by decide) (by decide) dL_law_177 dL_law_178 dL_law_180 dL_law_181 dL_law_182 ?_
  refine lw_sc cx hw hX hbl hbA hl (i0 := 4) (i4 := 0) rfl rfl hk hL (j := 5) (by decide) (by decide) dL_law_183 dL_law_184 dL_law_186 dL_law_187 dL_law_188 ?_
  refine hp_callFj (g1 := md_pic cA am m1) (As := [.int (xs (6 * k + 1)), .int (xs (6 * k + 2)), .int (xs (6 * k + 3)), .int (xs (6 * k + 4)), .int (xs (6 * k + 5))]) (rest := [.int r1]) cx hw hJ1.2.2.1 (km_X12_feed l D cA E _ am hjm hM n m1 (xs (6 * k + 1)) (xs (6 * k + 2)) (xs (6 * k + 3)) (xs (6 * k + 4)) (xs (6 * k + 5)) (r, m2) e2) (cwV 5 cx.2.2.2.2.2.1 gl_29 rfl rfl rfl (by decide +kernel) ⟨Nat.le_of_ble_eq_true rfl, Nat.le_of_ble_eq_true rfl⟩) (hJ1.2.2.1 _ _ md_at0) rfl rfl hl.1 rfl (Nat.le_of_ble_eq_true rfl) dL_law_189 ⟨by show cells + 0 + 0 ≤ 600128; omega, by show slots + 0 + 0 ≤ 7301097; omega⟩ (fun r8 u9 g10 H locs hp11 ha12 hb13 hc14 hw => ?_)
  obtain ⟨er2, eu⟩ := hp11
  subst eu
  have hJ2 : lw_J cA ad am o ca2 c2 m2 f g10 := hJ1.mdl ha12 hb13
  refine lv_icmp_eq (tgt := 803) cx.1 cx.2.1 dL_law_192 (by decide) (fun _ => ?_) (fun ck => absurd (er1.trans er2.symm) ck)
  exact K _ _ _ _ _ _ bb hw ⟨ca2, c2, m2, f, hLW2, hJ2⟩ (lv_sub hl [0, 1, 2, 3, 4] rfl) (by show cells + 0 + 0 + bb.1 ≤ 600128; omega) (by show slots + 0 + 0 + bb.2 ≤ 7301097; omega)
set_option maxHeartbeats 4000000 in
set_option maxRecDepth 100000 in
theorem lc_1 {p : Program} {l : Launch} {e : Env} {s : State} {m : MethodId} {below : List Frame} {meth : Method} {c : Code} {b L k n : Nat} {xs : Nat → Int32} (C0 : lw_At p s m meth c b L xs) (hL : L ≤ 384) (hk : 6 * k + 5 < L) {D : va_G} {cA : Nat → ClassId} {E : hp_N} {oq sgq sgv : Nat} (hG : cd_E E oq sgq sgv) (hM : md_E E) (hX1 : cd_X l E) (hX2 : cd_Y l E) (hnc : ∀ A U H, E A U H → va_Nc "java/lang/IllegalArgumentException" "java/lang/IllegalStateException" U) {ad : Nat → Nat → Nat} {am : Nat → Nat} {o : Nat} {C : Nat × Nat} (hjm : md_inj am) (hC : LC C) (hn : 60000000 ≤ n) (cx : hp_C p c cL_law meth ret 7 s m #[Value.ref b] ⟨RL, meth.name, ""⟩ lw_tbl) {g : hp_M} {H : Heap} {locs : List Loc} {ls : Array Slot} {cells slots : Nat} {bb : cd_B} (hw : hp_w D vwCl (hp_Tl cA) E (fun q => s.heap.size ≤ q) s H locs g) (hI : lw_I n cA ad am o C k g bb) (hl : lv_has ls 7 [(4, .int (nI (6 * k))), (3, .ref o), (2, .ref (am 137)), (1, .ref (ad 11 0)), (0, .ref b)]) (hcc : cells + bb.1 ≤ 600128) (hss : slots + bb.2 ≤ 7301097) (K : lw_K p l e s m below meth c b D cA E ad am o C n k) : W p l e room_1 s m #[Value.ref b] below meth c H locs cells slots (lw_Z below #[Value.ref b] s) (F0 m 197 ls []) := by
  obtain ⟨hx, hb, hr, hml, hown, hts, hX, hbl, hlocks, hgv⟩ := id C0
  have hbA : ¬ (fun q : Nat => s.heap.size ≤ q) b := Nat.not_le.mpr hbl
  obtain ⟨ca, c1, m1, f, hLW, hJ⟩ := hI
  have hk64 : k < 64 := by omega
  obtain ⟨r, c2, m2, e1, e2, hLW2⟩ := law_end (by omega) hLW (xs (6 * k + 1))
  refine lv_aload_n cx.1 cx.2.1 dL_law_197 rfl (lv_at hl 3 rfl) ?_
  refine lw_sc cx hw hX hbl hbA hl (i0 := 4) (i4 := 0) rfl rfl hk hL (j := 1) (by decide) (by decide) dL_law_198 dL_law_199 dL_law_201 dL_law_202 dL_law_203 ?_
  refine hp_callFj (g1 := cd_pic cA ad ca c1) (As := [.int (xs (6 * k + 1))]) (rest := []) cx hw hJ.2.1 (kc_X11_end l D cA E _ ad ca hJ.1 oq sgq sgv hG n c1 (xs (6 * k + 1)) (r, c2) e1) (cwV 1 cx.2.2.2.2.2.1 gl_30 rfl rfl rfl (by decide +kernel) ⟨Nat.le_of_ble_eq_true rfl, Nat.le_of_ble_eq_true rfl⟩) (hJ.2.1 _ _ (cd_atO hJ.1 (by decide) (by decide))) rfl rfl hl.1 rfl (Nat.le_of_ble_eq_true rfl) dL_law_204 ⟨by show cells + 0 ≤ 600128; omega, by show slots + 0 ≤ 7301097; omega⟩ (fun r1 u2 g3 H locs hp4 ha5 hb6 hc7 hw => ?_)
  obtain ⟨er1, ca2, hj2, eu⟩ := hp4
  subst eu
  have hJ1 : lw_J cA ad am o ca2 c2 m1 f g3 := hJ.cls hj2 ha5 hb6 hc7
  refine lv_aload_n cx.1 cx.2.1 dL_law_207 rfl (lv_at hl 2 rfl) ?_
  refine lw_sc cx hw hX hbl hbA hl (i0 := 4) (i4 := 0) rfl rfl hk hL (j := 1) (by decide) (by decide) dL_law_208 dL_law_209 dL_law_211 dL_law_212 dL_law_213 ?_
  refine hp_callFj (g1 := md_pic cA am m1) (As := [.int (xs (6 * k + 1))]) (rest := [.int r1]) cx hw hJ1.2.2.1 (km_X12_end l D cA E _ am hjm hM n m1 (xs (6 * k + 1)) (r, m2) e2) (cwV 1 cx.2.2.2.2.2.1 gl_34 rfl rfl rfl (by decide +kernel) ⟨Nat.le_of_ble_eq_true rfl, Nat.le_of_ble_eq_true rfl⟩) (hJ1.2.2.1 _ _ md_at0) rfl rfl hl.1 rfl (Nat.le_of_ble_eq_true rfl) dL_law_214 ⟨by show cells + 0 + 0 ≤ 600128; omega, by show slots + 0 + 0 ≤ 7301097; omega⟩ (fun r8 u9 g10 H locs hp11 ha12 hb13 hc14 hw => ?_)
  obtain ⟨er2, eu⟩ := hp11
  subst eu
  have hJ2 : lw_J cA ad am o ca2 c2 m2 f g10 := hJ1.mdl ha12 hb13
  refine lv_icmp_eq (tgt := 803) cx.1 cx.2.1 dL_law_217 (by decide) (fun _ => ?_) (fun ck => absurd (er1.trans er2.symm) ck)
  exact K _ _ _ _ _ _ bb hw ⟨ca2, c2, m2, f, hLW2, hJ2⟩ (lv_sub hl [0, 1, 2, 3, 4] rfl) (by show cells + 0 + 0 + bb.1 ≤ 600128; omega) (by show slots + 0 + 0 + bb.2 ≤ 7301097; omega)
set_option maxHeartbeats 4000000 in
set_option maxRecDepth 100000 in
theorem lc_2 {p : Program} {l : Launch} {e : Env} {s : State} {m : MethodId} {below : List Frame} {meth : Method} {c : Code} {b L k n : Nat} {xs : Nat → Int32} (C0 : lw_At p s m meth c b L xs) (hL : L ≤ 384) (hk : 6 * k + 5 < L) {D : va_G} {cA : Nat → ClassId} {E : hp_N} {oq sgq sgv : Nat} (hG : cd_E E oq sgq sgv) (hM : md_E E) (hX1 : cd_X l E) (hX2 : cd_Y l E) (hnc : ∀ A U H, E A U H → va_Nc "java/lang/IllegalArgumentException" "java/lang/IllegalStateException" U) {ad : Nat → Nat → Nat} {am : Nat → Nat} {o : Nat} {C : Nat × Nat} (hjm : md_inj am) (hC : LC C) (hn : 60000000 ≤ n) (cx : hp_C p c cL_law meth ret 7 s m #[Value.ref b] ⟨RL, meth.name, ""⟩ lw_tbl) {g : hp_M} {H : Heap} {locs : List Loc} {ls : Array Slot} {cells slots : Nat} {bb : cd_B} (hw : hp_w D vwCl (hp_Tl cA) E (fun q => s.heap.size ≤ q) s H locs g) (hI : lw_I n cA ad am o C k g bb) (hl : lv_has ls 7 [(4, .int (nI (6 * k))), (3, .ref o), (2, .ref (am 137)), (1, .ref (ad 11 0)), (0, .ref b)]) (hcc : cells + bb.1 ≤ 600128) (hss : slots + bb.2 ≤ 7301097) (K : lw_K p l e s m below meth c b D cA E ad am o C n k) : W p l e room_1 s m #[Value.ref b] below meth c H locs cells slots (lw_Z below #[Value.ref b] s) (F0 m 222 ls []) := by
  obtain ⟨hx, hb, hr, hml, hown, hts, hX, hbl, hlocks, hgv⟩ := id C0
  have hbA : ¬ (fun q : Nat => s.heap.size ≤ q) b := Nat.not_le.mpr hbl
  obtain ⟨ca, c1, m1, f, hLW, hJ⟩ := hI
  have hk64 : k < 64 := by omega
  rcases law_program hC (by omega) hk64 hLW with ⟨c2, b2, m2, e1, e2, e3, hLW2, hb1, hb2⟩ | ⟨r, c2, b2, m2, e1, e2, e3, hLW2, hb1, hb2⟩
  · have hq1 : cells + (bb.1 - b2.1) ≤ 600128 := by omega
    have hq2 : slots + (bb.2 - b2.2) ≤ 7301097 := by omega
    refine lv_aload_n cx.1 cx.2.1 dL_law_222 rfl (lv_at hl 3 rfl) ?_
    refine lv_aload_n cx.1 cx.2.1 dL_law_223 rfl (lv_at hl 1 rfl) ?_
    refine hp_callFWj (g1 := lw_H cA ad o ca c1 f) (As := [.ref (ad 11 0), .ref o]) (rest := []) cx hw hJ.sub (k2_Lp_x l D cA E _ _ ad ca hJ.1 oq sgq sgv hG hX1 n c1 bb (c2, b2) e1 o f (lw_H.cls hJ.2.2.2.2.2.1) hJ.2.2.2.2.2.1 (hp_up_self _ _ _)) (vx_cwSW 2 cx.2.2.2.2.2.1 gl_35 rfl rfl rfl (by decide +kernel) ⟨Nat.le_of_ble_eq_true rfl, Nat.le_of_ble_eq_true rfl⟩) rfl hl.1 rfl (Nat.le_of_ble_eq_true rfl) dL_law_224 ⟨hq1, hq2⟩ (fun r1 u2 g3 H locs hp4 ha5 hb6 hc7 hw => ?_)
    obtain ⟨er1, ca2, f2, hj2, hs2, ho2, hu2⟩ := hp4
    have hJ1 : lw_J cA ad am o ca2 c2 m1 f2 g3 := hJ.hlp hj2 hs2 ho2 hu2 ha5 hb6 hc7
    subst er1
    refine lv_istore (lv' := [(5, .int 1), (4, .int (nI (6 * k))), (3, .ref o), (2, .ref (am 137)), (1, .ref (ad 11 0)), (0, .ref b)]) cx.1 cx.2.1 dL_law_227 hl (by decide) rfl (fun ls hl => ?_)
    refine lv_aload_n cx.1 cx.2.1 dL_law_229 rfl (lv_at hl 3 rfl) ?_
    refine hp_callFj (g1 := md_pic cA am m1) (As := []) (rest := []) cx hw hJ1.2.2.1 (km_X12_program l D cA E _ am hjm hM n m1  (0, m2) e2) (cwV 0 cx.2.2.2.2.2.1 gl_40 rfl rfl rfl (by decide +kernel) ⟨Nat.le_of_ble_eq_true rfl, Nat.le_of_ble_eq_true rfl⟩) (hJ1.2.2.1 _ _ md_at0) rfl rfl hl.1 rfl (Nat.le_of_ble_eq_true rfl) dL_law_230 ⟨by show cells + (bb.1 - b2.1) + 0 ≤ 600128; omega, by show slots + (bb.2 - b2.2) + 0 ≤ 7301097; omega⟩ (fun r8 u9 g10 H locs hp11 ha12 hb13 hc14 hw => ?_)
    obtain ⟨er2, eu⟩ := hp11
    subst eu
    have hJ2 : lw_J cA ad am o ca2 c2 m2 f2 g10 := hJ1.mdl ha12 hb13
    refine lv_istore (lv' := [(6, .int r8), (5, .int 1), (4, .int (nI (6 * k))), (3, .ref o), (2, .ref (am 137)), (1, .ref (ad 11 0)), (0, .ref b)]) cx.1 cx.2.1 dL_law_233 hl (by decide) rfl (fun ls hl => ?_)
    refine lv_aload_n cx.1 cx.2.1 dL_law_235 rfl (lv_at hl 4 rfl) ?_
    refine hp_callFj (g1 := md_pic cA am m2) (As := []) (rest := []) cx hw hJ2.2.2.1 (km_X12_thrown l D cA E _ am hjm hM n m2  (mI m2 0, m2) m_thrown) (cwV 0 cx.2.2.2.2.2.1 gl_41 rfl rfl rfl (by decide +kernel) ⟨Nat.le_of_ble_eq_true rfl, Nat.le_of_ble_eq_true rfl⟩) (hJ2.2.2.1 _ _ md_at0) rfl rfl hl.1 rfl (Nat.le_of_ble_eq_true rfl) dL_law_236 ⟨by show cells + (bb.1 - b2.1) + 0 + 0 ≤ 600128; omega, by show slots + (bb.2 - b2.2) + 0 + 0 ≤ 7301097; omega⟩ (fun r15 u16 g17 H locs hp18 ha19 hb20 hc21 hw => ?_)
    obtain ⟨er3, eu⟩ := hp18
    subst eu
    have hJ3 : lw_J cA ad am o ca2 c2 m2 f2 g17 := hJ2.mdl ha19 hb20
    have er3 : r15 = 1 := er3.trans e3
    subst er3
    refine lv_iload cx.1 cx.2.1 dL_law_239 (lv_at hl 1 rfl) ?_
    refine lv_icmp_eq (tgt := 246) cx.1 cx.2.1 dL_law_241 (by decide) (fun _ => ?_) (fun ck => absurd rfl ck)
    refine lv_iload cx.1 cx.2.1 dL_law_246 (lv_at hl 1 rfl) ?_
    refine lv_if_ne (tgt := 263) cx.1 cx.2.1 dL_law_248 (by decide) (fun _ => ?_) (fun ck => absurd ck (by decide))
    refine lv_goto (tgt := 803) cx.1 cx.2.1 dL_law_263 (by decide) ?_
    exact K _ _ _ _ _ _ b2 hw ⟨ca2, c2, m2, f2, hLW2, hJ3⟩ (lv_sub hl [2, 3, 4, 5, 6] rfl) (by show cells + (bb.1 - b2.1) + 0 + 0 + b2.1 ≤ 600128; omega) (by show slots + (bb.2 - b2.2) + 0 + 0 + b2.2 ≤ 7301097; omega)
  · have hq1 : cells + (bb.1 - b2.1) ≤ 600128 := by omega
    have hq2 : slots + (bb.2 - b2.2) ≤ 7301097 := by omega
    refine lv_aload_n cx.1 cx.2.1 dL_law_222 rfl (lv_at hl 3 rfl) ?_
    refine lv_aload_n cx.1 cx.2.1 dL_law_223 rfl (lv_at hl 1 rfl) ?_
    refine hp_callFWj (g1 := lw_H cA ad o ca c1 f) (As := [.ref (ad 11 0), .ref o]) (rest := []) cx hw hJ.sub (k2_Lp_r l D cA E _ _ ad ca hJ.1 oq sgq sgv hG n c1 bb (r, c2, b2) e1 o f (lw_H.cls hJ.2.2.2.2.2.1) hJ.2.2.2.2.2.1 (hp_up_self _ _ _)) (vx_cwSW 2 cx.2.2.2.2.2.1 gl_35 rfl rfl rfl (by decide +kernel) ⟨Nat.le_of_ble_eq_true rfl, Nat.le_of_ble_eq_true rfl⟩) rfl hl.1 rfl (Nat.le_of_ble_eq_true rfl) dL_law_224 ⟨hq1, hq2⟩ (fun r1 u2 g3 H locs hp4 ha5 hb6 hc7 hw => ?_)
    obtain ⟨er1, ca2, f2, hj2, hs2, ho2, hu2, hf2⟩ := hp4
    have hJ1 : lw_J cA ad am o ca2 c2 m1 f2 g3 := hJ.hlp hj2 hs2 ho2 hu2 ha5 hb6 hc7
    subst er1
    refine lv_istore (lv' := [(5, .int 0), (4, .int (nI (6 * k))), (3, .ref o), (2, .ref (am 137)), (1, .ref (ad 11 0)), (0, .ref b)]) cx.1 cx.2.1 dL_law_227 hl (by decide) rfl (fun ls hl => ?_)
    refine lv_aload_n cx.1 cx.2.1 dL_law_229 rfl (lv_at hl 3 rfl) ?_
    refine hp_callFj (g1 := md_pic cA am m1) (As := []) (rest := []) cx hw hJ1.2.2.1 (km_X12_program l D cA E _ am hjm hM n m1  (r, m2) e2) (cwV 0 cx.2.2.2.2.2.1 gl_40 rfl rfl rfl (by decide +kernel) ⟨Nat.le_of_ble_eq_true rfl, Nat.le_of_ble_eq_true rfl⟩) (hJ1.2.2.1 _ _ md_at0) rfl rfl hl.1 rfl (Nat.le_of_ble_eq_true rfl) dL_law_230 ⟨by show cells + (bb.1 - b2.1) + 0 ≤ 600128; omega, by show slots + (bb.2 - b2.2) + 0 ≤ 7301097; omega⟩ (fun r8 u9 g10 H locs hp11 ha12 hb13 hc14 hw => ?_)
    obtain ⟨er2, eu⟩ := hp11
    subst eu
    have hJ2 : lw_J cA ad am o ca2 c2 m2 f2 g10 := hJ1.mdl ha12 hb13
    refine lv_istore (lv' := [(6, .int r8), (5, .int 0), (4, .int (nI (6 * k))), (3, .ref o), (2, .ref (am 137)), (1, .ref (ad 11 0)), (0, .ref b)]) cx.1 cx.2.1 dL_law_233 hl (by decide) rfl (fun ls hl => ?_)
    refine lv_aload_n cx.1 cx.2.1 dL_law_235 rfl (lv_at hl 4 rfl) ?_
    refine hp_callFj (g1 := md_pic cA am m2) (As := []) (rest := []) cx hw hJ2.2.2.1 (km_X12_thrown l D cA E _ am hjm hM n m2  (mI m2 0, m2) m_thrown) (cwV 0 cx.2.2.2.2.2.1 gl_41 rfl rfl rfl (by decide +kernel) ⟨Nat.le_of_ble_eq_true rfl, Nat.le_of_ble_eq_true rfl⟩) (hJ2.2.2.1 _ _ md_at0) rfl rfl hl.1 rfl (Nat.le_of_ble_eq_true rfl) dL_law_236 ⟨by show cells + (bb.1 - b2.1) + 0 + 0 ≤ 600128; omega, by show slots + (bb.2 - b2.2) + 0 + 0 ≤ 7301097; omega⟩ (fun r15 u16 g17 H locs hp18 ha19 hb20 hc21 hw => ?_)
    obtain ⟨er3, eu⟩ := hp18
    subst eu
    have hJ3 : lw_J cA ad am o ca2 c2 m2 f2 g17 := hJ2.mdl ha19 hb20
    have er3 : r15 = 0 := er3.trans e3
    subst er3
    refine lv_iload cx.1 cx.2.1 dL_law_239 (lv_at hl 1 rfl) ?_
    refine lv_icmp_eq (tgt := 246) cx.1 cx.2.1 dL_law_241 (by decide) (fun _ => ?_) (fun ck => absurd rfl ck)
    refine lv_iload cx.1 cx.2.1 dL_law_246 (lv_at hl 1 rfl) ?_
    refine lv_if_ne (tgt := 263) cx.1 cx.2.1 dL_law_248 (by decide) (fun ck => absurd rfl ck) (fun _ => ?_)
    refine lv_aload_n cx.1 cx.2.1 dL_law_251 rfl (lv_at hl 3 rfl) ?_
    refine lv_iconst (v := 0) cx.1 cx.2.1 dL_law_252 (by decide) ?_
    refine hp_lald cx hw 2 hJ3.2.2.2.2.1 rfl (by unfold vp_in; decide) dL_law_253 ?_
    refine lv_iload cx.1 cx.2.1 dL_law_254 (lv_at hl 0 rfl) ?_
    refine lv_i2l (v := r8.toInt64) cx.1 cx.2.1 dL_law_256 rfl ?_
    refine W.lcmp cx.1 cx.2.1 dL_law_257 ?_
    have hcmp : lg_cmp (f2 (0 : Int32).toNatClampNeg) r8.toInt64 = 0 := by
      rw [show f2 (0 : Int32).toNatClampNeg = r.toInt64 from hf2, show r8 = r from er2]
      exact cmp_same _
    refine lv_if_eq (tgt := 263) cx.1 cx.2.1 dL_law_258 (by decide) (fun _ => ?_) (fun ck => absurd hcmp ck)
    refine lv_goto (tgt := 803) cx.1 cx.2.1 dL_law_263 (by decide) ?_
    exact K _ _ _ _ _ _ b2 hw ⟨ca2, c2, m2, f2, hLW2, hJ3⟩ (lv_sub hl [2, 3, 4, 5, 6] rfl) (by show cells + (bb.1 - b2.1) + 0 + 0 + b2.1 ≤ 600128; omega) (by show slots + (bb.2 - b2.2) + 0 + 0 + b2.2 ≤ 7301097; omega)
set_option maxHeartbeats 4000000 in
set_option maxRecDepth 100000 in
theorem lc_3 {p : Program} {l : Launch} {e : Env} {s : State} {m : MethodId} {below : List Frame} {meth : Method} {c : Code} {b L k n : Nat} {xs : Nat → Int32} (C0 : lw_At p s m meth c b L xs) (hL : L ≤ 384) (hk : 6 * k + 5 < L) {D : va_G} {cA : Nat → ClassId} {E : hp_N} {oq sgq sgv : Nat} (hG : cd_E E oq sgq sgv) (hM : md_E E) (hX1 : cd_X l E) (hX2 : cd_Y l E) (hnc : ∀ A U H, E A U H → va_Nc "java/lang/IllegalArgumentException" "java/lang/IllegalStateException" U) {ad : Nat → Nat → Nat} {am : Nat → Nat} {o : Nat} {C : Nat × Nat} (hjm : md_inj am) (hC : LC C) (hn : 60000000 ≤ n) (cx : hp_C p c cL_law meth ret 7 s m #[Value.ref b] ⟨RL, meth.name, ""⟩ lw_tbl) {g : hp_M} {H : Heap} {locs : List Loc} {ls : Array Slot} {cells slots : Nat} {bb : cd_B} (hw : hp_w D vwCl (hp_Tl cA) E (fun q => s.heap.size ≤ q) s H locs g) (hI : lw_I n cA ad am o C k g bb) (hl : lv_has ls 7 [(4, .int (nI (6 * k))), (3, .ref o), (2, .ref (am 137)), (1, .ref (ad 11 0)), (0, .ref b)]) (hcc : cells + bb.1 ≤ 600128) (hss : slots + bb.2 ≤ 7301097) (K : lw_K p l e s m below meth c b D cA E ad am o C n k) : W p l e room_1 s m #[Value.ref b] below meth c H locs cells slots (lw_Z below #[Value.ref b] s) (F0 m 266 ls []) := by
  obtain ⟨hx, hb, hr, hml, hown, hts, hX, hbl, hlocks, hgv⟩ := id C0
  have hbA : ¬ (fun q : Nat => s.heap.size ≤ q) b := Nat.not_le.mpr hbl
  obtain ⟨ca, c1, m1, f, hLW, hJ⟩ := hI
  have hk64 : k < 64 := by omega
  obtain ⟨hLT, t_fault, t_number, t_domain, t_unit, t_code, t_has, t_result, t_event, t_context, t_thread, t_count⟩ := law_tell (by omega) hLW (xs (6 * k + 1)) (xs (6 * k + 2)) (xs (6 * k + 3))
  obtain ⟨r, e1, e2⟩ := t_fault
  obtain ⟨m2, em⟩ : ∃ m2, m2 = mSI m1 0 0 := ⟨_, rfl⟩
  rw [← em] at e2 hLT
  have hLW2 := hLT
  obtain ⟨c2, ec⟩ : ∃ c2, c2 = c1 := ⟨c1, rfl⟩
  have e1 : f_X11_fault n c1 (xs (6 * k + 1)) = some (r, c2) := by rw [ec]; exact e1
  rw [← ec] at hLW2
  refine lv_aload_n cx.1 cx.2.1 dL_law_266 rfl (lv_at hl 3 rfl) ?_
  refine lw_sc cx hw hX hbl hbA hl (i0 := 4) (i4 := 0) rfl rfl hk hL (j := 1) (by decide) (by decide) dL_law_267 dL_law_268 dL_law_270 dL_law_271 dL_law_272 ?_
  refine hp_callFj (g1 := cd_pic cA ad ca c1) (As := [.int (xs (6 * k + 1))]) (rest := []) cx hw hJ.2.1 (kc_X11_fault l D cA E _ ad ca hJ.1 oq sgq sgv hG n c1 (xs (6 * k + 1)) (r, c2) e1) (cwV 1 cx.2.2.2.2.2.1 gl_44 rfl rfl rfl (by decide +kernel) ⟨Nat.le_of_ble_eq_true rfl, Nat.le_of_ble_eq_true rfl⟩) (hJ.2.1 _ _ (cd_atO hJ.1 (by decide) (by decide))) rfl rfl hl.1 rfl (Nat.le_of_ble_eq_true rfl) dL_law_273 ⟨by show cells + 0 ≤ 600128; omega, by show slots + 0 ≤ 7301097; omega⟩ (fun r1 u2 g3 H locs hp4 ha5 hb6 hc7 hw => ?_)
  obtain ⟨er1, ca2, hj2, eu⟩ := hp4
  subst eu
  have hJ1 : lw_J cA ad am o ca2 c2 m1 f g3 := hJ.cls hj2 ha5 hb6 hc7
  refine lv_aload_n cx.1 cx.2.1 dL_law_276 rfl (lv_at hl 2 rfl) ?_
  refine lw_sc cx hw hX hbl hbA hl (i0 := 4) (i4 := 0) rfl rfl hk hL (j := 1) (by decide) (by decide) dL_law_277 dL_law_278 dL_law_280 dL_law_281 dL_law_282 ?_
  refine hp_callFj (g1 := md_pic cA am m1) (As := [.int (xs (6 * k + 1))]) (rest := [.int r1]) cx hw hJ1.2.2.1 (km_X12_fault l D cA E _ am hjm hM n m1 (xs (6 * k + 1)) (r, m2) e2) (cwV 1 cx.2.2.2.2.2.1 gl_48 rfl rfl rfl (by decide +kernel) ⟨Nat.le_of_ble_eq_true rfl, Nat.le_of_ble_eq_true rfl⟩) (hJ1.2.2.1 _ _ md_at0) rfl rfl hl.1 rfl (Nat.le_of_ble_eq_true rfl) dL_law_283 ⟨by show cells + 0 + 0 ≤ 600128; omega, by show slots + 0 + 0 ≤ 7301097; omega⟩ (fun r8 u9 g10 H locs hp11 ha12 hb13 hc14 hw => ?_)
  obtain ⟨er2, eu⟩ := hp11
  subst eu
  have hJ2 : lw_J cA ad am o ca2 c2 m2 f g10 := hJ1.mdl ha12 hb13
  refine lv_icmp_eq (tgt := 803) cx.1 cx.2.1 dL_law_286 (by decide) (fun _ => ?_) (fun ck => absurd (er1.trans er2.symm) ck)
  exact K _ _ _ _ _ _ bb hw ⟨ca2, c2, m2, f, hLW2, hJ2⟩ (lv_sub hl [0, 1, 2, 3, 4] rfl) (by show cells + 0 + 0 + bb.1 ≤ 600128; omega) (by show slots + 0 + 0 + bb.2 ≤ 7301097; omega)
set_option maxHeartbeats 4000000 in
set_option maxRecDepth 100000 in
theorem lc_4 {p : Program} {l : Launch} {e : Env} {s : State} {m : MethodId} {below : List Frame} {meth : Method} {c : Code} {b L k n : Nat} {xs : Nat → Int32} (C0 : lw_At p s m meth c b L xs) (hL : L ≤ 384) (hk : 6 * k + 5 < L) {D : va_G} {cA : Nat → ClassId} {E : hp_N} {oq sgq sgv : Nat} (hG : cd_E E oq sgq sgv) (hM : md_E E) (hX1 : cd_X l E) (hX2 : cd_Y l E) (hnc : ∀ A U H, E A U H → va_Nc "java/lang/IllegalArgumentException" "java/lang/IllegalStateException" U) {ad : Nat → Nat → Nat} {am : Nat → Nat} {o : Nat} {C : Nat × Nat} (hjm : md_inj am) (hC : LC C) (hn : 60000000 ≤ n) (cx : hp_C p c cL_law meth ret 7 s m #[Value.ref b] ⟨RL, meth.name, ""⟩ lw_tbl) {g : hp_M} {H : Heap} {locs : List Loc} {ls : Array Slot} {cells slots : Nat} {bb : cd_B} (hw : hp_w D vwCl (hp_Tl cA) E (fun q => s.heap.size ≤ q) s H locs g) (hI : lw_I n cA ad am o C k g bb) (hl : lv_has ls 7 [(4, .int (nI (6 * k))), (3, .ref o), (2, .ref (am 137)), (1, .ref (ad 11 0)), (0, .ref b)]) (hcc : cells + bb.1 ≤ 600128) (hss : slots + bb.2 ≤ 7301097) (K : lw_K p l e s m below meth c b D cA E ad am o C n k) : W p l e room_1 s m #[Value.ref b] below meth c H locs cells slots (lw_Z below #[Value.ref b] s) (F0 m 291 ls []) := by
  obtain ⟨hx, hb, hr, hml, hown, hts, hX, hbl, hlocks, hgv⟩ := id C0
  have hbA : ¬ (fun q : Nat => s.heap.size ≤ q) b := Nat.not_le.mpr hbl
  obtain ⟨ca, c1, m1, f, hLW, hJ⟩ := hI
  have hk64 : k < 64 := by omega
  obtain ⟨hLT, t_fault, t_number, t_domain, t_unit, t_code, t_has, t_result, t_event, t_context, t_thread, t_count⟩ := law_tell (by omega) hLW (xs (6 * k + 1)) (xs (6 * k + 2)) (xs (6 * k + 3))
  obtain ⟨r, m2, e1, e2, hLW2⟩ := t_count
  obtain ⟨c2, ec⟩ : ∃ c2, c2 = c1 := ⟨c1, rfl⟩
  have e1 : f_X11_count n c1 (xs (6 * k + 1)) = some (r, c2) := by rw [ec]; exact e1
  rw [← ec] at hLW2
  refine lv_aload_n cx.1 cx.2.1 dL_law_291 rfl (lv_at hl 3 rfl) ?_
  refine lw_sc cx hw hX hbl hbA hl (i0 := 4) (i4 := 0) rfl rfl hk hL (j := 1) (by decide) (by decide) dL_law_292 dL_law_293 dL_law_295 dL_law_296 dL_law_297 ?_
  refine hp_callFj (g1 := cd_pic cA ad ca c1) (As := [.int (xs (6 * k + 1))]) (rest := []) cx hw hJ.2.1 (kc_X11_count l D cA E _ ad ca hJ.1 oq sgq sgv hG n c1 (xs (6 * k + 1)) (r, c2) e1) (cwV 1 cx.2.2.2.2.2.1 gl_49 rfl rfl rfl (by decide +kernel) ⟨Nat.le_of_ble_eq_true rfl, Nat.le_of_ble_eq_true rfl⟩) (hJ.2.1 _ _ (cd_atO hJ.1 (by decide) (by decide))) rfl rfl hl.1 rfl (Nat.le_of_ble_eq_true rfl) dL_law_298 ⟨by show cells + 0 ≤ 600128; omega, by show slots + 0 ≤ 7301097; omega⟩ (fun r1 u2 g3 H locs hp4 ha5 hb6 hc7 hw => ?_)
  obtain ⟨er1, ca2, hj2, eu⟩ := hp4
  subst eu
  have hJ1 : lw_J cA ad am o ca2 c2 m1 f g3 := hJ.cls hj2 ha5 hb6 hc7
  refine lv_aload_n cx.1 cx.2.1 dL_law_301 rfl (lv_at hl 2 rfl) ?_
  refine lw_sc cx hw hX hbl hbA hl (i0 := 4) (i4 := 0) rfl rfl hk hL (j := 1) (by decide) (by decide) dL_law_302 dL_law_303 dL_law_305 dL_law_306 dL_law_307 ?_
  refine hp_callFj (g1 := md_pic cA am m1) (As := [.int (xs (6 * k + 1))]) (rest := [.int r1]) cx hw hJ1.2.2.1 (km_X12_count l D cA E _ am hjm hM n m1 (xs (6 * k + 1)) (r, m2) e2) (cwV 1 cx.2.2.2.2.2.1 gl_52 rfl rfl rfl (by decide +kernel) ⟨Nat.le_of_ble_eq_true rfl, Nat.le_of_ble_eq_true rfl⟩) (hJ1.2.2.1 _ _ md_at0) rfl rfl hl.1 rfl (Nat.le_of_ble_eq_true rfl) dL_law_308 ⟨by show cells + 0 + 0 ≤ 600128; omega, by show slots + 0 + 0 ≤ 7301097; omega⟩ (fun r8 u9 g10 H locs hp11 ha12 hb13 hc14 hw => ?_)
  obtain ⟨er2, eu⟩ := hp11
  subst eu
  have hJ2 : lw_J cA ad am o ca2 c2 m2 f g10 := hJ1.mdl ha12 hb13
  refine lv_icmp_eq (tgt := 803) cx.1 cx.2.1 dL_law_311 (by decide) (fun _ => ?_) (fun ck => absurd (er1.trans er2.symm) ck)
  exact K _ _ _ _ _ _ bb hw ⟨ca2, c2, m2, f, hLW2, hJ2⟩ (lv_sub hl [0, 1, 2, 3, 4] rfl) (by show cells + 0 + 0 + bb.1 ≤ 600128; omega) (by show slots + 0 + 0 + bb.2 ≤ 7301097; omega)
set_option maxHeartbeats 4000000 in
set_option maxRecDepth 100000 in
theorem lc_5 {p : Program} {l : Launch} {e : Env} {s : State} {m : MethodId} {below : List Frame} {meth : Method} {c : Code} {b L k n : Nat} {xs : Nat → Int32} (C0 : lw_At p s m meth c b L xs) (hL : L ≤ 384) (hk : 6 * k + 5 < L) {D : va_G} {cA : Nat → ClassId} {E : hp_N} {oq sgq sgv : Nat} (hG : cd_E E oq sgq sgv) (hM : md_E E) (hX1 : cd_X l E) (hX2 : cd_Y l E) (hnc : ∀ A U H, E A U H → va_Nc "java/lang/IllegalArgumentException" "java/lang/IllegalStateException" U) {ad : Nat → Nat → Nat} {am : Nat → Nat} {o : Nat} {C : Nat × Nat} (hjm : md_inj am) (hC : LC C) (hn : 60000000 ≤ n) (cx : hp_C p c cL_law meth ret 7 s m #[Value.ref b] ⟨RL, meth.name, ""⟩ lw_tbl) {g : hp_M} {H : Heap} {locs : List Loc} {ls : Array Slot} {cells slots : Nat} {bb : cd_B} (hw : hp_w D vwCl (hp_Tl cA) E (fun q => s.heap.size ≤ q) s H locs g) (hI : lw_I n cA ad am o C k g bb) (hl : lv_has ls 7 [(4, .int (nI (6 * k))), (3, .ref o), (2, .ref (am 137)), (1, .ref (ad 11 0)), (0, .ref b)]) (hcc : cells + bb.1 ≤ 600128) (hss : slots + bb.2 ≤ 7301097) (K : lw_K p l e s m below meth c b D cA E ad am o C n k) : W p l e room_1 s m #[Value.ref b] below meth c H locs cells slots (lw_Z below #[Value.ref b] s) (F0 m 316 ls []) := by
  obtain ⟨hx, hb, hr, hml, hown, hts, hX, hbl, hlocks, hgv⟩ := id C0
  have hbA : ¬ (fun q : Nat => s.heap.size ≤ q) b := Nat.not_le.mpr hbl
  obtain ⟨ca, c1, m1, f, hLW, hJ⟩ := hI
  have hk64 : k < 64 := by omega
  obtain ⟨hLT, t_fault, t_number, t_domain, t_unit, t_code, t_has, t_result, t_event, t_context, t_thread, t_count⟩ := law_tell (by omega) hLW (xs (6 * k + 1)) (xs (6 * k + 2)) (xs (6 * k + 3))
  obtain ⟨r, e1, e2⟩ := t_unit
  obtain ⟨m2, em⟩ : ∃ m2, m2 = mSI m1 0 0 := ⟨_, rfl⟩
  rw [← em] at e2 hLT
  have hLW2 := hLT
  obtain ⟨c2, ec⟩ : ∃ c2, c2 = c1 := ⟨c1, rfl⟩
  have e1 : f_X11_unit n c1 (xs (6 * k + 1)) (xs (6 * k + 2)) = some (r, c2) := by rw [ec]; exact e1
  rw [← ec] at hLW2
  refine lv_aload_n cx.1 cx.2.1 dL_law_316 rfl (lv_at hl 3 rfl) ?_
  refine lw_sc cx hw hX hbl hbA hl (i0 := 4) (i4 := 0) rfl rfl hk hL (j := 1) (by decide) (by decide) dL_law_317 dL_law_318 dL_law_320 dL_law_321 dL_law_322 ?_
  refine lw_sc cx hw hX hbl hbA hl (i0 := 4) (i4 := 0) rfl rfl hk hL (j := 2) (by decide) (by decide) dL_law_323 dL_law_324 dL_law_326 dL_law_327 dL_law_328 ?_
  refine hp_callFj (g1 := cd_pic cA ad ca c1) (As := [.int (xs (6 * k + 1)), .int (xs (6 * k + 2))]) (rest := []) cx hw hJ.2.1 (kc_X11_unit l D cA E _ ad ca hJ.1 oq sgq sgv hG n c1 (xs (6 * k + 1)) (xs (6 * k + 2)) (r, c2) e1) (cwV 2 cx.2.2.2.2.2.1 gl_53 rfl rfl rfl (by decide +kernel) ⟨Nat.le_of_ble_eq_true rfl, Nat.le_of_ble_eq_true rfl⟩) (hJ.2.1 _ _ (cd_atO hJ.1 (by decide) (by decide))) rfl rfl hl.1 rfl (Nat.le_of_ble_eq_true rfl) dL_law_329 ⟨by show cells + 0 ≤ 600128; omega, by show slots + 0 ≤ 7301097; omega⟩ (fun r1 u2 g3 H locs hp4 ha5 hb6 hc7 hw => ?_)
  obtain ⟨er1, ca2, hj2, eu⟩ := hp4
  subst eu
  have hJ1 : lw_J cA ad am o ca2 c2 m1 f g3 := hJ.cls hj2 ha5 hb6 hc7
  refine lv_aload_n cx.1 cx.2.1 dL_law_332 rfl (lv_at hl 2 rfl) ?_
  refine lw_sc cx hw hX hbl hbA hl (i0 := 4) (i4 := 0) rfl rfl hk hL (j := 1) (by decide) (by decide) dL_law_333 dL_law_334 dL_law_336 dL_law_337 dL_law_338 ?_
  refine lw_sc cx hw hX hbl hbA hl (i0 := 4) (i4 := 0) rfl rfl hk hL (j := 2) (by decide) (by decide) dL_law_339 dL_law_340 dL_law_342 dL_law_343 dL_law_344 ?_
  refine hp_callFj (g1 := md_pic cA am m1) (As := [.int (xs (6 * k + 1)), .int (xs (6 * k + 2))]) (rest := [.int r1]) cx hw hJ1.2.2.1 (km_X12_unit l D cA E _ am hjm hM n m1 (xs (6 * k + 1)) (xs (6 * k + 2)) (r, m2) e2) (cwV 2 cx.2.2.2.2.2.1 gl_57 rfl rfl rfl (by decide +kernel) ⟨Nat.le_of_ble_eq_true rfl, Nat.le_of_ble_eq_true rfl⟩) (hJ1.2.2.1 _ _ md_at0) rfl rfl hl.1 rfl (Nat.le_of_ble_eq_true rfl) dL_law_345 ⟨by show cells + 0 + 0 ≤ 600128; omega, by show slots + 0 + 0 ≤ 7301097; omega⟩ (fun r8 u9 g10 H locs hp11 ha12 hb13 hc14 hw => ?_)
  obtain ⟨er2, eu⟩ := hp11
  subst eu
  have hJ2 : lw_J cA ad am o ca2 c2 m2 f g10 := hJ1.mdl ha12 hb13
  refine lv_icmp_eq (tgt := 803) cx.1 cx.2.1 dL_law_348 (by decide) (fun _ => ?_) (fun ck => absurd (er1.trans er2.symm) ck)
  exact K _ _ _ _ _ _ bb hw ⟨ca2, c2, m2, f, hLW2, hJ2⟩ (lv_sub hl [0, 1, 2, 3, 4] rfl) (by show cells + 0 + 0 + bb.1 ≤ 600128; omega) (by show slots + 0 + 0 + bb.2 ≤ 7301097; omega)
