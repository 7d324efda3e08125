theorem lw_sub6 (L : Nat) (hL : L ≤ 384) : (nI L - 6 : Int32).toInt = (L : Int) - 6 := by
  rw [Int32.toInt_sub, nI_toInt (by omega), show (6 : Int32).toInt = 6 by decide]
  rw [Int.bmod_eq_of_le (by omega) (by omega)]
theorem lw_cmp {k L : Nat} (hk : 6 * k + 5 < L) (hL : L ≤ 384) : ¬ (nI L - 6 : Int32) < nI (6 * k) := by
  rw [Int32.lt_iff_toInt_lt, lw_sub6 L hL, nI_toInt (by omega)]
  omega
theorem lw_cmpO {k L : Nat} (hk : ¬ 6 * k + 5 < L) (hL : L ≤ 384) (h64 : k ≤ 64) : (nI L - 6 : Int32) < nI (6 * k) := by
  rw [Int32.lt_iff_toInt_lt, lw_sub6 L hL, nI_toInt (by omega)]
  omega
set_option maxHeartbeats 4000000 in
set_option maxRecDepth 100000 in
theorem law_out {p : Program} {l : Launch} {e : Env} {s : State} {m : MethodId} {below : List Frame} {meth : Method} {c : Code} {b L k : Nat} {xs : Nat → Int32} (C0 : lw_At p s m meth c b L xs) (hL : L ≤ 384) (hk : ¬ 6 * k + 5 < L) (hk64 : k ≤ 64) {D : va_G} {cA : Nat → ClassId} {E : hp_N} {ad : Nat → Nat → Nat} {am : Nat → Nat} {o : Nat} (cx : hp_C p c cL_law meth ret 7 s m #[Value.ref b] ⟨RL, meth.name, ""⟩ lw_tbl) {g : hp_M} {H : Heap} {locs : List Loc} {ls : Array Slot} {cells slots : Nat} {bb : cd_B} (hw : hp_w D vwCl (hp_Tl cA) E (fun q => s.heap.size ≤ q) s H locs g) (hl : lv_has ls 7 [(4, .int (nI (6 * k))), (3, .ref o), (2, .ref (am 137)), (1, .ref (ad 11 0)), (0, .ref b)]) (hcc : cells + bb.1 ≤ 600128) (hss : slots + bb.2 ≤ 7301097) : W p l e room_1 s m #[Value.ref b] below meth c H locs cells slots (lw_Z below #[Value.ref b] s) (F0 m 23 ls []) := by
  obtain ⟨hx, hb, hr, hml, hown, hts, hX, hbl, hlocks, hgv⟩ := id C0
  have hbA : ¬ (fun q : Nat => s.heap.size ≤ q) b := Nat.not_le.mpr hbl
  refine lv_iload cx.1 cx.2.1 dL_law_23 (lv_at hl 0 rfl) ?_
  refine lv_aload_n cx.1 cx.2.1 dL_law_25 rfl (lv_at hl 4 rfl) ?_
  refine va_slen cx.1 cx.2.1 hX hbl hbA hw.2.1 dL_law_26 ?_
  refine lv_bipush (v := 6) cx.1 cx.2.1 dL_law_27 (by decide) ?_
  refine lv_isub cx.1 cx.2.1 dL_law_29 ?_
  refine lv_icmp_gt (tgt := 809) cx.1 cx.2.1 dL_law_30 (by decide) (fun _ => ?_) (fun ck => absurd (lw_cmpO hk hL hk64) ck)
  refine lv_iconst (v := 1) cx.1 cx.2.1 dL_law_809 (by decide) ?_
  refine va_forget (fun q hq => hw.2.1.2.2 q hq) ?_
  refine W.widen (k := 600128) (n := 7301097) (by omega) (by omega) ?_
  exact lw_ret hx hb hr hlocks dL_law_810
set_option maxHeartbeats 4000000 in
set_option maxRecDepth 100000 in
theorem law_cases {p : Program} {l : Launch} {e : Env} {s : State} {m : MethodId} {below : List Frame} {meth : Method} {c : Code} {b L k n : Nat} {xs : Nat → Int32} (C0 : lw_At p s m meth c b L xs) (hL : L ≤ 384) (hk : 6 * k + 5 < L) {D : va_G} {cA : Nat → ClassId} {E : hp_N} {oq sgq sgv : Nat} (hG : cd_E E oq sgq sgv) (hM : md_E E) (hX1 : cd_X l E) (hX2 : cd_Y l E) (hnc : ∀ A U H, E A U H → va_Nc "java/lang/IllegalArgumentException" "java/lang/IllegalStateException" U) {ad : Nat → Nat → Nat} {am : Nat → Nat} {o : Nat} {C : Nat × Nat} (hjm : md_inj am) (hC : LC C) (hn : 60000000 ≤ n) (cx : hp_C p c cL_law meth ret 7 s m #[Value.ref b] ⟨RL, meth.name, ""⟩ lw_tbl) {g : hp_M} {H : Heap} {locs : List Loc} {ls : Array Slot} {cells slots : Nat} {bb : cd_B} (hw : hp_w D vwCl (hp_Tl cA) E (fun q => s.heap.size ≤ q) s H locs g) (hI : lw_I n cA ad am o C k g bb) (hl : lv_has ls 7 [(4, .int (nI (6 * k))), (3, .ref o), (2, .ref (am 137)), (1, .ref (ad 11 0)), (0, .ref b)]) (hcc : cells + bb.1 ≤ 600128) (hss : slots + bb.2 ≤ 7301097) (K : lw_K p l e s m below meth c b D cA E ad am o C n k) (v : Int32) : W p l e room_1 s m #[Value.ref b] below meth c H locs cells slots (lw_Z below #[Value.ref b] s) (F0 m 40 ls [.int (v &&& 31)]) := by
  obtain ⟨j, hj, ej⟩ := pk_andE v (m := 31) 5 (by decide)
  refine lv_topi (fun z ez => ?_)
  obtain rfl : z = nI j := ez.trans ej
  rcases (show j = 0 ∨ j = 1 ∨ j = 2 ∨ j = 3 ∨ j = 4 ∨ j = 5 ∨ j = 6 ∨ j = 7 ∨ j = 8 ∨ j = 9 ∨ j = 10 ∨ j = 11 ∨ j = 12 ∨ j = 13 ∨ j = 14 ∨ j = 15 ∨ j = 16 ∨ 17 ≤ j by omega) with rfl | rfl | rfl | rfl | rfl | rfl | rfl | rfl | rfl | rfl | rfl | rfl | rfl | rfl | rfl | rfl | rfl | hge
  · refine lv_tableIn (off := 84) (tgt := 124) cx.1 cx.2.1 dL_law_40 (by decide) (by decide) (by decide) (by decide) ?_
    exact lc_0 C0 hL hk hG hM hX1 hX2 hnc hjm hC hn cx hw hI hl hcc hss K
  · refine lv_tableIn (off := 157) (tgt := 197) cx.1 cx.2.1 dL_law_40 (by decide) (by decide) (by decide) (by decide) ?_
    exact lc_1 C0 hL hk hG hM hX1 hX2 hnc hjm hC hn cx hw hI hl hcc hss K
  · refine lv_tableIn (off := 182) (tgt := 222) cx.1 cx.2.1 dL_law_40 (by decide) (by decide) (by decide) (by decide) ?_
    exact lc_2 C0 hL hk hG hM hX1 hX2 hnc hjm hC hn cx hw hI hl hcc hss K
  · refine lv_tableIn (off := 226) (tgt := 266) cx.1 cx.2.1 dL_law_40 (by decide) (by decide) (by decide) (by decide) ?_
    exact lc_3 C0 hL hk hG hM hX1 hX2 hnc hjm hC hn cx hw hI hl hcc hss K
  · refine lv_tableIn (off := 251) (tgt := 291) cx.1 cx.2.1 dL_law_40 (by decide) (by decide) (by decide) (by decide) ?_
    exact lc_4 C0 hL hk hG hM hX1 hX2 hnc hjm hC hn cx hw hI hl hcc hss K
  · refine lv_tableIn (off := 276) (tgt := 316) cx.1 cx.2.1 dL_law_40 (by decide) (by decide) (by decide) (by decide) ?_
    exact lc_5 C0 hL hk hG hM hX1 hX2 hnc hjm hC hn cx hw hI hl hcc hss K
  · refine lv_tableIn (off := 313) (tgt := 353) cx.1 cx.2.1 dL_law_40 (by decide) (by decide) (by decide) (by decide) ?_
    exact lc_6 C0 hL hk hG hM hX1 hX2 hnc hjm hC hn cx hw hI hl hcc hss K
  · refine lv_tableIn (off := 378) (tgt := 418) cx.1 cx.2.1 dL_law_40 (by decide) (by decide) (by decide) (by decide) ?_
    exact lc_7 C0 hL hk hG hM hX1 hX2 hnc hjm hC hn cx hw hI hl hcc hss K
  · refine lv_tableIn (off := 403) (tgt := 443) cx.1 cx.2.1 dL_law_40 (by decide) (by decide) (by decide) (by decide) ?_
    exact lc_8 C0 hL hk hG hM hX1 hX2 hnc hjm hC hn cx hw hI hl hcc hss K
  · refine lv_tableIn (off := 428) (tgt := 468) cx.1 cx.2.1 dL_law_40 (by decide) (by decide) (by decide) (by decide) ?_
    exact lc_9 C0 hL hk hG hM hX1 hX2 hnc hjm hC hn cx hw hI hl hcc hss K
  · refine lv_tableIn (off := 441) (tgt := 481) cx.1 cx.2.1 dL_law_40 (by decide) (by decide) (by decide) (by decide) ?_
    exact lc_10 C0 hL hk hG hM hX1 hX2 hnc hjm hC hn cx hw hI hl hcc hss K
  · refine lv_tableIn (off := 494) (tgt := 534) cx.1 cx.2.1 dL_law_40 (by decide) (by decide) (by decide) (by decide) ?_
    exact lc_11 C0 hL hk hG hM hX1 hX2 hnc hjm hC hn cx hw hI hl hcc hss K
  · refine lv_tableIn (off := 519) (tgt := 559) cx.1 cx.2.1 dL_law_40 (by decide) (by decide) (by decide) (by decide) ?_
    exact lc_12 C0 hL hk hG hM hX1 hX2 hnc hjm hC hn cx hw hI hl hcc hss K
  · refine lv_tableIn (off := 627) (tgt := 667) cx.1 cx.2.1 dL_law_40 (by decide) (by decide) (by decide) (by decide) ?_
    exact lc_13 C0 hL hk hG hM hX1 hX2 hnc hjm hC hn cx hw hI hl hcc hss K
  · refine lv_tableIn (off := 652) (tgt := 692) cx.1 cx.2.1 dL_law_40 (by decide) (by decide) (by decide) (by decide) ?_
    exact lc_14 C0 hL hk hG hM hX1 hX2 hnc hjm hC hn cx hw hI hl hcc hss K
  · refine lv_tableIn (off := 689) (tgt := 729) cx.1 cx.2.1 dL_law_40 (by decide) (by decide) (by decide) (by decide) ?_
    exact lc_15 C0 hL hk hG hM hX1 hX2 hnc hjm hC hn cx hw hI hl hcc hss K
  · refine lv_tableIn (off := 726) (tgt := 766) cx.1 cx.2.1 dL_law_40 (by decide) (by decide) (by decide) (by decide) ?_
    exact lc_16 C0 hL hk hG hM hX1 hX2 hnc hjm hC hn cx hw hI hl hcc hss K
  · refine lv_tableOut (tgt := 803) cx.1 cx.2.1 dL_law_40 (Or.inr (by rw [nI_toInt (by omega)]; omega)) (by decide) ?_
    obtain ⟨ca, c1, m1, f, hLW, hJ⟩ := hI
    exact K _ _ _ _ _ _ _ hw ⟨ca, c1, m1, f, hLW.same, hJ⟩ hl hcc hss
set_option maxHeartbeats 4000000 in
set_option maxRecDepth 100000 in
theorem law_loop {p : Program} {l : Launch} {e : Env} {s : State} {m : MethodId} {below : List Frame} {meth : Method} {c : Code} {b L n : Nat} {xs : Nat → Int32} (C0 : lw_At p s m meth c b L xs) (hL : L ≤ 384) {D : va_G} {cA : Nat → ClassId} {E : hp_N} {oq sgq sgv : Nat} (hG : cd_E E oq sgq sgv) (hM : md_E E) (hX1 : cd_X l E) (hX2 : cd_Y l E) (hnc : ∀ A U H, E A U H → va_Nc "java/lang/IllegalArgumentException" "java/lang/IllegalStateException" U) {ad : Nat → Nat → Nat} {am : Nat → Nat} {o : Nat} {C : Nat × Nat} (hjm : md_inj am) (hC : LC C) (hn : 60000000 ≤ n) (cx : hp_C p c cL_law meth ret 7 s m #[Value.ref b] ⟨RL, meth.name, ""⟩ lw_tbl)  : ∀ (t k : Nat) (g : hp_M) (H : Heap) (locs : List Loc) (ls : Array Slot) (cells slots : Nat) (bb : cd_B), L ≤ 6 * k + 6 * t → k ≤ 64 → hp_w D vwCl (hp_Tl cA) E (fun q => s.heap.size ≤ q) s H locs g → lw_I n cA ad am o C k g bb → lv_has ls 7 [(4, .int (nI (6 * k))), (3, .ref o), (2, .ref (am 137)), (1, .ref (ad 11 0)), (0, .ref b)] → cells + bb.1 ≤ 600128 → slots + bb.2 ≤ 7301097 → W p l e room_1 s m #[Value.ref b] below meth c H locs cells slots (lw_Z below #[Value.ref b] s) (F0 m 23 ls []) := by
  obtain ⟨hx, hb, hr, hml, hown, hts, hX, hbl, hlocks, hgv⟩ := id C0
  have hbA : ¬ (fun q : Nat => s.heap.size ≤ q) b := Nat.not_le.mpr hbl
  intro t
  induction t with
  | zero =>
    intro k g H locs ls cells slots bb ht hk64 hw hI hl hcc hss
    exact law_out C0 hL (by omega) hk64 cx hw hl hcc hss
  | succ t ih =>
    intro k g H locs ls cells slots bb ht hk64 hw hI hl hcc hss
    by_cases hk : 6 * k + 5 < L
    · refine lv_iload cx.1 cx.2.1 dL_law_23 (lv_at hl 0 rfl) ?_
      refine lv_aload_n cx.1 cx.2.1 dL_law_25 rfl (lv_at hl 4 rfl) ?_
      refine va_slen cx.1 cx.2.1 hX hbl hbA hw.2.1 dL_law_26 ?_
      refine lv_bipush (v := 6) cx.1 cx.2.1 dL_law_27 (by decide) ?_
      refine lv_isub cx.1 cx.2.1 dL_law_29 ?_
      refine lv_icmp_gt (tgt := 809) cx.1 cx.2.1 dL_law_30 (by decide) (fun ck => absurd ck (lw_cmp hk hL)) (fun _ => ?_)
      refine lv_aload_n cx.1 cx.2.1 dL_law_33 rfl (lv_at hl 4 rfl) ?_
      refine lv_iload cx.1 cx.2.1 dL_law_34 (lv_at hl 0 rfl) ?_
      refine va_sld cx.1 cx.2.1 hX hbl hbA hw.2.1 (vp_in_nI (N := L) (by omega) (by omega)) dL_law_36 ?_
      refine lv_bipush (v := 31) cx.1 cx.2.1 dL_law_37 (by decide) ?_
      refine lv_iand cx.1 cx.2.1 dL_law_39 ?_
      refine law_cases C0 hL hk hG hM hX1 hX2 hnc hjm hC hn cx hw hI hl hcc hss (fun g H locs ls cells slots bb hw hI hl hcc hss => ?_) _
      refine lv_iinc (v := nI (6 * (k + 1))) (lv' := [(4, .int (nI (6 * (k + 1)))), (3, .ref o), (2, .ref (am 137)), (1, .ref (ad 11 0)), (0, .ref b)]) cx.1 cx.2.1 dL_law_803 hl (k := 0) rfl (nI_add (6 * k) 6) (by decide) rfl (fun ls hl => ?_)
      refine lv_goto (tgt := 23) cx.1 cx.2.1 dL_law_806 (by decide) ?_
      exact ih (k + 1) g H locs ls cells slots bb (by omega) (by omega) hw hI hl hcc hss
    · exact law_out C0 hL hk hk64 cx hw hl hcc hss
