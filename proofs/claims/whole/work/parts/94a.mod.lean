set_option maxHeartbeats 4000000 in
set_option maxRecDepth 100000 in
theorem km_X12_thrown (l : Launch) (D : va_G) (cA : Nat → ClassId) (E : hp_N) (sz : Nat) (ad : Nat → Nat) (hj : md_inj ad) (hE : md_E E) (n : Nat) (σ0 : md_S) (p : (Int32 × md_S)) (h : f_X12_thrown n σ0 = some p) : Met l yX12_thrown (Cond.code yX12_thrown cX12_thrown 1 (some .int) :: v_MOD) ({ frames := 0, cells := 0, slots := 0, locals := 0 }) (hp_Pc D vwCl (hp_Tl cA) E sz (md_pic cA ad σ0) [.ref (ad 137)]) (hp_Qi D vwCl (hp_Tl cA) sz (md_pic cA ad σ0) (fun r u => r = p.1 ∧ u = md_pic cA ad p.2)) 0 0 (hp_A (md_pic cA ad σ0) sz) := by
  refine hp_ofW (cc := cX12_thrown) (maxL := 1) (ret := (some .int)) (by decide) rfl (Nat.le_of_ble_eq_true rfl) ?_
  intro pp ee ss mm bb mt cd ls cx hsz hw hl
  have hl : lv_has ls 1 [(0, .ref (ad 137))] := hl
  refine lv_aload_n cx.1 cx.2.1 dX12_thrown_0 rfl (lv_at hl 0 rfl) ?_
  refine md_gI (k := 0) cx hw hin12c rfl (by decide) (List.mem_cons_of_mem _ mm_0) dX12_thrown_1 ?_
  exact hp_iret cx hw (md_ret h) dX12_thrown_4
set_option maxHeartbeats 4000000 in
set_option maxRecDepth 100000 in
theorem km_X12_in (l : Launch) (D : va_G) (cA : Nat → ClassId) (E : hp_N) (sz : Nat) (ad : Nat → Nat) (hj : md_inj ad) (hE : md_E E) (n : Nat) (σ0 : md_S) (a0 : Int64) (a2 : Int64) (a4 : Int64) (p : (Int32 × md_S)) (h : f_X12_in n σ0 a0 a2 a4 = some p) : Met l yX12_in (Cond.code yX12_in cX12_in 6 (some .boolean) :: v_MOD) ({ frames := 0, cells := 0, slots := 0, locals := 0 }) (hp_Pc D vwCl (hp_Tl cA) E sz (md_pic cA ad σ0) [.long a0, .long a2, .long a4]) (hp_Qi D vwCl (hp_Tl cA) sz (md_pic cA ad σ0) (fun r u => r = p.1 ∧ u = md_pic cA ad p.2)) 0 0 (hp_A (md_pic cA ad σ0) sz) := by
  refine hp_ofW (cc := cX12_in) (maxL := 6) (ret := (some .boolean)) (by decide) rfl (Nat.le_of_ble_eq_true rfl) ?_
  intro pp ee ss mm bb mt cd ls cx hsz hw hl
  have hl : lv_has ls 6 [(0, .long a0), (2, .long a2), (4, .long a4)] := hl
  refine lv_lload_n cx.1 cx.2.1 dX12_in_0 rfl (lv_at hl 0 rfl) ?_
  refine lv_lload_n cx.1 cx.2.1 dX12_in_1 rfl (lv_at hl 1 rfl) ?_
  refine W.lcmp cx.1 cx.2.1 dX12_in_2 ?_
  refine lv_if_lt (tgt := 17) cx.1 cx.2.1 dX12_in_3 (by decide) (fun c3 => ?_) (fun c3 => ?_)
  · have h := md_ip c3 h
    refine lv_iconst (v := 0) cx.1 cx.2.1 dX12_in_17 (by decide) ?_
    exact hp_zret cx hw (md_ret h) (by decide) dX12_in_18
  · have h := md_in c3 h
    refine lv_lload_n cx.1 cx.2.1 dX12_in_6 rfl (lv_at hl 0 rfl) ?_
    refine lv_lload cx.1 cx.2.1 dX12_in_7 (lv_at hl 2 rfl) ?_
    refine W.lcmp cx.1 cx.2.1 dX12_in_9 ?_
    refine lv_if_gt (tgt := 17) cx.1 cx.2.1 dX12_in_10 (by decide) (fun c10 => ?_) (fun c10 => ?_)
    · have h := md_ip c10 h
      refine lv_iconst (v := 0) cx.1 cx.2.1 dX12_in_17 (by decide) ?_
      exact hp_zret cx hw (md_ret h) (by decide) dX12_in_18
    · have h := md_in c10 h
      refine lv_iconst (v := 1) cx.1 cx.2.1 dX12_in_13 (by decide) ?_
      refine lv_goto (tgt := 18) cx.1 cx.2.1 dX12_in_14 (by decide) ?_
      exact hp_zret cx hw (md_ret h) (by decide) dX12_in_18
set_option maxHeartbeats 4000000 in
set_option maxRecDepth 100000 in
theorem km_X12_feed (l : Launch) (D : va_G) (cA : Nat → ClassId) (E : hp_N) (sz : Nat) (ad : Nat → Nat) (hj : md_inj ad) (hE : md_E E) (n : Nat) (σ0 : md_S) (a1 : Int32) (a2 : Int32) (a3 : Int32) (a4 : Int32) (a5 : Int32) (p : (Int32 × md_S)) (h : f_X12_feed n σ0 a1 a2 a3 a4 a5 = some p) : Met l yX12_feed (Cond.code yX12_feed cX12_feed 8 (some .boolean) :: v_MOD) ({ frames := 0, cells := 0, slots := 0, locals := 0 }) (hp_Pc D vwCl (hp_Tl cA) E sz (md_pic cA ad σ0) [.ref (ad 137), .int a1, .int a2, .int a3, .int a4, .int a5]) (hp_Qi D vwCl (hp_Tl cA) sz (md_pic cA ad σ0) (fun r u => r = p.1 ∧ u = md_pic cA ad p.2)) 0 0 (hp_A (md_pic cA ad σ0) sz) := by
  refine hp_ofW (cc := cX12_feed) (maxL := 8) (ret := (some .boolean)) (by decide) rfl (Nat.le_of_ble_eq_true rfl) ?_
  intro pp ee ss mm bb mt cd ls cx hsz hw hl
  have hl : lv_has ls 8 [(0, .ref (ad 137)), (1, .int a1), (2, .int a2), (3, .int a3), (4, .int a4), (5, .int a5)] := hl
  refine lv_aload_n cx.1 cx.2.1 dX12_feed_0 rfl (lv_at hl 0 rfl) ?_
  refine lv_iconst (v := 0) cx.1 cx.2.1 dX12_feed_1 (by decide) ?_
  obtain ⟨σ1, e_σ1, h⟩ := md_ob h
  refine md_pI (k := 0) cx hw hin12c rfl (by decide) rfl (List.mem_cons_of_mem _ mm_0) rfl e_σ1 dX12_feed_2 (fun H locs hw => ?_)
  refine lv_aload_n cx.1 cx.2.1 dX12_feed_5 rfl (lv_at hl 0 rfl) ?_
  refine md_gI (k := 2) cx hw hin12c rfl (by decide) (List.mem_cons_of_mem _ mm_1) dX12_feed_6 ?_
  refine lv_bipush (v := 20) cx.1 cx.2.1 dX12_feed_9 (by decide) ?_
  refine lv_iadd cx.1 cx.2.1 dX12_feed_11 ?_
  refine lv_sipush (v := 3000) cx.1 cx.2.1 dX12_feed_12 (by decide) ?_
  refine lv_icmp_le (tgt := 20) cx.1 cx.2.1 dX12_feed_15 (by decide) (fun c15 => ?_) (fun c15 => ?_)
  · have h := md_ip c15 h
    refine lv_iconst (v := 0) cx.1 cx.2.1 dX12_feed_20 (by decide) ?_
    refine lv_istore (lv' := [(6, .int 0), (0, .ref (ad 137)), (1, .int a1), (2, .int a2), (3, .int a3), (4, .int a4), (5, .int a5)]) cx.1 cx.2.1 dX12_feed_21 hl (by decide) rfl (fun ls hl => ?_)
    have L23 : ∀ (j : Nat) (σ : md_S) (l1 : Int32) (l2 : Int32) (l3 : Int32) (l4 : Int32) (l5 : Int32) (l6 : Int32) (q : (md_S × Int32)) (H : Heap) (locs : List Loc) (ls : Array Slot), f_X12_feed_L23 n l1 l2 l3 l4 l5 j σ l6 = some q → hp_w D vwCl (hp_Tl cA) E (hp_A (md_pic cA ad σ0) sz) ss H locs (md_pic cA ad σ) → lv_has ls 8 [(0, .ref (ad 137)), (1, .int l1), (2, .int l2), (3, .int l3), (4, .int l4), (5, .int l5), (6, .int l6)] → (∀ (H : Heap) (locs : List Loc) (ls : Array Slot), hp_w D vwCl (hp_Tl cA) E (hp_A (md_pic cA ad σ0) sz) ss H locs (md_pic cA ad q.1) → lv_has ls 8 [] → W pp l ee ({ frames := 0, cells := 0, slots := 0, locals := 0 }) ss mm [.ref (ad 137), .int a1, .int a2, .int a3, .int a4, .int a5].toArray bb mt cd H locs 0 0 (MQ bb (hp_Qi D vwCl (hp_Tl cA) sz (md_pic cA ad σ0) (fun r u => r = p.1 ∧ u = md_pic cA ad p.2)) [.ref (ad 137), .int a1, .int a2, .int a3, .int a4, .int a5].toArray ss 0 0 (hp_A (md_pic cA ad σ0) sz)) (F0 mm 120 ls [])) → W pp l ee ({ frames := 0, cells := 0, slots := 0, locals := 0 }) ss mm [.ref (ad 137), .int a1, .int a2, .int a3, .int a4, .int a5].toArray bb mt cd H locs 0 0 (MQ bb (hp_Qi D vwCl (hp_Tl cA) sz (md_pic cA ad σ0) (fun r u => r = p.1 ∧ u = md_pic cA ad p.2)) [.ref (ad 137), .int a1, .int a2, .int a3, .int a4, .int a5].toArray ss 0 0 (hp_A (md_pic cA ad σ0) sz)) (F0 mm 23 ls []) := by
      intro j
      induction j with
      | zero => intro σ l1 l2 l3 l4 l5 l6 q H locs ls h; exact nomatch h
      | succ j ih =>
        intro σ l1 l2 l3 l4 l5 l6 q H locs ls h hw hl K
        have J76 : ∀ (σ : md_S) (l6 : Int32) (t0 : Int32) (H : Heap) (locs : List Loc) (ls : Array Slot), f_X12_feed_J76 n l1 l2 l3 l4 l5 (f_X12_feed_L23 n l1 l2 l3 l4 l5 j) σ l6 t0 = some q → hp_w D vwCl (hp_Tl cA) E (hp_A (md_pic cA ad σ0) sz) ss H locs (md_pic cA ad σ) → lv_has ls 8 [(0, .ref (ad 137)), (1, .int l1), (2, .int l2), (3, .int l3), (4, .int l4), (5, .int l5), (6, .int l6)] → W pp l ee ({ frames := 0, cells := 0, slots := 0, locals := 0 }) ss mm [.ref (ad 137), .int a1, .int a2, .int a3, .int a4, .int a5].toArray bb mt cd H locs 0 0 (MQ bb (hp_Qi D vwCl (hp_Tl cA) sz (md_pic cA ad σ0) (fun r u => r = p.1 ∧ u = md_pic cA ad p.2)) [.ref (ad 137), .int a1, .int a2, .int a3, .int a4, .int a5].toArray ss 0 0 (hp_A (md_pic cA ad σ0) sz)) (F0 mm 76 ls [.int t0]) := by
          intro σ l6 t0 H locs ls h hw hl
          refine lv_istore (lv' := [(7, .int t0), (0, .ref (ad 137)), (1, .int l1), (2, .int l2), (3, .int l3), (4, .int l4), (5, .int l5), (6, .int l6)]) cx.1 cx.2.1 dX12_feed_76 hl (by decide) rfl (fun ls hl => ?_)
          refine lv_aload_n cx.1 cx.2.1 dX12_feed_78 rfl (lv_at hl 1 rfl) ?_
          refine md_gR (k := 1) cx hw hin12c (by decide) (by decide) (List.mem_cons_of_mem _ mm_2) dX12_feed_79 ?_
          refine lv_aload_n cx.1 cx.2.1 dX12_feed_82 rfl (lv_at hl 1 rfl) ?_
          refine md_gI (k := 2) cx hw hin12c rfl (by decide) (List.mem_cons_of_mem _ mm_1) dX12_feed_83 ?_
          refine lv_iload cx.1 cx.2.1 dX12_feed_86 (lv_at hl 0 rfl) ?_
          refine lv_bipush (v := 24) cx.1 cx.2.1 dX12_feed_88 (by decide) ?_
          refine lv_bipush (v := 8) cx.1 cx.2.1 dX12_feed_90 (by decide) ?_
          refine lv_iload cx.1 cx.2.1 dX12_feed_92 (lv_at hl 7 rfl) ?_
          refine lv_iconst (v := 4) cx.1 cx.2.1 dX12_feed_94 (by decide) ?_
          refine lv_irem cx.1 cx.2.1 dX12_feed_95 (by decide) ?_
          refine lv_imul cx.1 cx.2.1 dX12_feed_96 ?_
          refine lv_isub cx.1 cx.2.1 dX12_feed_97 ?_
          refine lv_ishr cx.1 cx.2.1 dX12_feed_98 ?_
          refine lv_sipush (v := 255) cx.1 cx.2.1 dX12_feed_99 (by decide) ?_
          refine lv_iand cx.1 cx.2.1 dX12_feed_102 ?_
          obtain ⟨σ2, e_σ2, h⟩ := md_ob h
          refine md_sI (k := 1) hj cx hw (by decide) rfl rfl rfl e_σ2 dX12_feed_103 (fun H locs hw => ?_)
          refine lv_aload_n cx.1 cx.2.1 dX12_feed_104 rfl (lv_at hl 1 rfl) ?_
          refine lv_dup cx.1 cx.2.1 dX12_feed_105 rfl ?_
          refine md_gI (k := 2) cx hw hin12c rfl (by decide) (List.mem_cons_of_mem _ mm_1) dX12_feed_106 ?_
          refine lv_iconst (v := 1) cx.1 cx.2.1 dX12_feed_109 (by decide) ?_
          refine lv_iadd cx.1 cx.2.1 dX12_feed_110 ?_
          obtain ⟨σ3, e_σ3, h⟩ := md_ob h
          refine md_pI (k := 2) cx hw hin12c rfl (by decide) rfl (List.mem_cons_of_mem _ mm_1) rfl e_σ3 dX12_feed_111 (fun H locs hw => ?_)
          refine lv_iinc (v := (l6 + 1)) (lv' := [(6, .int (l6 + 1)), (7, .int t0), (0, .ref (ad 137)), (1, .int l1), (2, .int l2), (3, .int l3), (4, .int l4), (5, .int l5)]) cx.1 cx.2.1 dX12_feed_114 hl (k := 7) rfl rfl (by decide) rfl (fun ls hl => ?_)
          refine lv_goto (tgt := 23) cx.1 cx.2.1 dX12_feed_117 (by decide) ?_
          exact ih σ3 l1 l2 l3 l4 l5 ((l6 + 1)) q _ _ _ h hw (lv_sub hl [2, 3, 4, 5, 6, 7, 0] rfl) K
        refine lv_iload cx.1 cx.2.1 dX12_feed_23 (lv_at hl 6 rfl) ?_
        refine lv_bipush (v := 20) cx.1 cx.2.1 dX12_feed_25 (by decide) ?_
        refine lv_icmp_ge (tgt := 120) cx.1 cx.2.1 dX12_feed_27 (by decide) (fun c27 => ?_) (fun c27 => ?_)
        · have h := md_ip c27 h
          obtain rfl := Option.some.inj h
          exact K _ _ _ hw (lv_sub hl [] rfl)
        · have h := md_in c27 h
          refine lv_iload cx.1 cx.2.1 dX12_feed_30 (lv_at hl 6 rfl) ?_
          refine lv_iconst (v := 4) cx.1 cx.2.1 dX12_feed_32 (by decide) ?_
          refine lv_icmp_ge (tgt := 40) cx.1 cx.2.1 dX12_feed_33 (by decide) (fun c33 => ?_) (fun c33 => ?_)
          · have h := md_ip c33 h
            refine lv_iload cx.1 cx.2.1 dX12_feed_40 (lv_at hl 6 rfl) ?_
            refine lv_bipush (v := 8) cx.1 cx.2.1 dX12_feed_42 (by decide) ?_
            refine lv_icmp_ge (tgt := 51) cx.1 cx.2.1 dX12_feed_44 (by decide) (fun c44 => ?_) (fun c44 => ?_)
            · have h := md_ip c44 h
              refine lv_iload cx.1 cx.2.1 dX12_feed_51 (lv_at hl 6 rfl) ?_
              refine lv_bipush (v := 12) cx.1 cx.2.1 dX12_feed_53 (by decide) ?_
              refine lv_icmp_ge (tgt := 62) cx.1 cx.2.1 dX12_feed_55 (by decide) (fun c55 => ?_) (fun c55 => ?_)
              · have h := md_ip c55 h
                refine lv_iload cx.1 cx.2.1 dX12_feed_62 (lv_at hl 6 rfl) ?_
                refine lv_bipush (v := 16) cx.1 cx.2.1 dX12_feed_64 (by decide) ?_
                refine lv_icmp_ge (tgt := 74) cx.1 cx.2.1 dX12_feed_66 (by decide) (fun c66 => ?_) (fun c66 => ?_)
                · have h := md_ip c66 h
                  refine lv_iload cx.1 cx.2.1 dX12_feed_74 (lv_at hl 5 rfl) ?_
                  exact J76 σ l6 l5 _ _ _ h hw (lv_sub hl [0, 1, 2, 3, 4, 5, 6] rfl)
                · have h := md_in c66 h
                  refine lv_iload cx.1 cx.2.1 dX12_feed_69 (lv_at hl 4 rfl) ?_
                  refine lv_goto (tgt := 76) cx.1 cx.2.1 dX12_feed_71 (by decide) ?_
                  exact J76 σ l6 l4 _ _ _ h hw (lv_sub hl [0, 1, 2, 3, 4, 5, 6] rfl)
              · have h := md_in c55 h
                refine lv_iload_n cx.1 cx.2.1 dX12_feed_58 rfl (lv_at hl 3 rfl) ?_
                refine lv_goto (tgt := 76) cx.1 cx.2.1 dX12_feed_59 (by decide) ?_
                exact J76 σ l6 l3 _ _ _ h hw (lv_sub hl [0, 1, 2, 3, 4, 5, 6] rfl)
            · have h := md_in c44 h
              refine lv_iload_n cx.1 cx.2.1 dX12_feed_47 rfl (lv_at hl 2 rfl) ?_
              refine lv_goto (tgt := 76) cx.1 cx.2.1 dX12_feed_48 (by decide) ?_
              exact J76 σ l6 l2 _ _ _ h hw (lv_sub hl [0, 1, 2, 3, 4, 5, 6] rfl)
          · have h := md_in c33 h
            refine lv_iload_n cx.1 cx.2.1 dX12_feed_36 rfl (lv_at hl 1 rfl) ?_
            refine lv_goto (tgt := 76) cx.1 cx.2.1 dX12_feed_37 (by decide) ?_
            exact J76 σ l6 l1 _ _ _ h hw (lv_sub hl [0, 1, 2, 3, 4, 5, 6] rfl)
    obtain ⟨q4, e_q4, h⟩ := md_ob h
    refine L23 n σ1 a1 a2 a3 a4 a5 0 q4 _ _ _ e_q4 hw (lv_sub hl [1, 2, 3, 4, 5, 6, 0] rfl) (fun H locs ls hw hl => ?_)
    refine lv_iconst (v := 1) cx.1 cx.2.1 dX12_feed_120 (by decide) ?_
    exact hp_zret cx hw (md_ret h) (by decide) dX12_feed_121
  · have h := md_in c15 h
    refine lv_iconst (v := 0) cx.1 cx.2.1 dX12_feed_18 (by decide) ?_
    exact hp_zret cx hw (md_ret h) (by decide) dX12_feed_19
set_option maxHeartbeats 4000000 in
set_option maxRecDepth 100000 in
theorem km_X12_end (l : Launch) (D : va_G) (cA : Nat → ClassId) (E : hp_N) (sz : Nat) (ad : Nat → Nat) (hj : md_inj ad) (hE : md_E E) (n : Nat) (σ0 : md_S) (a1 : Int32) (p : (Int32 × md_S)) (h : f_X12_end n σ0 a1 = some p) : Met l yX12_end (Cond.code yX12_end cX12_end 2 (some .boolean) :: v_MOD) ({ frames := 1, cells := 0, slots := 0, locals := 25 }) (hp_Pc D vwCl (hp_Tl cA) E sz (md_pic cA ad σ0) [.ref (ad 137), .int a1]) (hp_Qi D vwCl (hp_Tl cA) sz (md_pic cA ad σ0) (fun r u => r = p.1 ∧ u = md_pic cA ad p.2)) 0 0 (hp_A (md_pic cA ad σ0) sz) := by
  refine hp_ofW (cc := cX12_end) (maxL := 2) (ret := (some .boolean)) (by decide) rfl (Nat.le_of_ble_eq_true rfl) ?_
  intro pp ee ss mm bb mt cd ls cx hsz hw hl
  have hl : lv_has ls 2 [(0, .ref (ad 137)), (1, .int a1)] := hl
  refine lv_aload_n cx.1 cx.2.1 dX12_end_0 rfl (lv_at hl 0 rfl) ?_
  refine lv_iconst (v := 0) cx.1 cx.2.1 dX12_end_1 (by decide) ?_
  obtain ⟨σ1, e_σ1, h⟩ := md_ob h
  refine md_pI (k := 0) cx hw hin12c rfl (by decide) rfl (List.mem_cons_of_mem _ mm_0) rfl e_σ1 dX12_end_2 (fun H locs hw => ?_)
  refine lv_iload_n cx.1 cx.2.1 dX12_end_5 rfl (lv_at hl 1 rfl) ?_
  refine lv_i2l (v := (a1.toInt64)) cx.1 cx.2.1 dX12_end_6 rfl ?_
  refine lv_lconst (v := 0) cx.1 cx.2.1 dX12_end_7 (by decide) ?_
  refine lv_aload_n cx.1 cx.2.1 dX12_end_8 rfl (lv_at hl 0 rfl) ?_
  refine md_gI (k := 2) cx hw hin12c rfl (by decide) (List.mem_cons_of_mem _ mm_1) dX12_end_9 ?_
  refine lv_i2l (v := ((mI σ1 2).toInt64)) cx.1 cx.2.1 dX12_end_12 rfl ?_
  obtain ⟨p2, e_p2, h⟩ := md_ob h
  refine hp_callSi (As := [.long (a1.toInt64), .long 0, .long ((mI σ1 2).toInt64)]) (rest := []) cx hw (km_X12_in l D cA E _ ad hj hE n σ1 ((a1.toInt64)) (0 : Int64) (((mI σ1 2).toInt64)) p2 e_p2) (cwS 3 cx.2.2.2.2.2.1 (md_giS mm_3 mm_4 mm_5 mm_6) rfl rfl rfl hd_X12_in ⟨Nat.le_of_ble_eq_true rfl, Nat.le_of_ble_eq_true rfl⟩) rfl hl.1 rfl (Nat.le_of_ble_eq_true rfl) dX12_end_13 ⟨Nat.le_refl _, Nat.le_refl _⟩ (fun r u H locs hp hw => ?_)
  obtain ⟨rfl, rfl⟩ := hp
  refine lv_if_ne (tgt := 21) cx.1 cx.2.1 dX12_end_16 (by decide) (fun c16 => ?_) (fun c16 => ?_)
  · have h := md_in c16 h
    refine lv_aload_n cx.1 cx.2.1 dX12_end_21 rfl (lv_at hl 0 rfl) ?_
    refine lv_iload_n cx.1 cx.2.1 dX12_end_22 rfl (lv_at hl 1 rfl) ?_
    obtain ⟨σ3, e_σ3, h⟩ := md_ob h
    refine md_pI (k := 2) cx hw hin12c rfl (by decide) rfl (List.mem_cons_of_mem _ mm_1) rfl e_σ3 dX12_end_23 (fun H locs hw => ?_)
    refine lv_iconst (v := 1) cx.1 cx.2.1 dX12_end_26 (by decide) ?_
    exact hp_zret cx hw (md_ret h) (by decide) dX12_end_27
  · have h := md_ip c16 h
    refine lv_iconst (v := 0) cx.1 cx.2.1 dX12_end_19 (by decide) ?_
    exact hp_zret cx hw (md_ret h) (by decide) dX12_end_20
set_option maxHeartbeats 4000000 in
set_option maxRecDepth 100000 in
theorem km_X12_at (l : Launch) (D : va_G) (cA : Nat → ClassId) (E : hp_N) (sz : Nat) (ad : Nat → Nat) (hj : md_inj ad) (hE : md_E E) (n : Nat) (σ0 : md_S) (a1 : Int32) (p : (Int32 × md_S)) (h : f_X12_at n σ0 a1 = some p) : Met l yX12_at (Cond.code yX12_at cX12_at 2 (some .int) :: v_MOD) ({ frames := 0, cells := 0, slots := 0, locals := 0 }) (hp_Pc D vwCl (hp_Tl cA) E sz (md_pic cA ad σ0) [.ref (ad 137), .int a1]) (hp_Qi D vwCl (hp_Tl cA) sz (md_pic cA ad σ0) (fun r u => r = p.1 ∧ u = md_pic cA ad p.2)) 0 0 (hp_A (md_pic cA ad σ0) sz) := by
  refine hp_ofW (cc := cX12_at) (maxL := 2) (ret := (some .int)) (by decide) rfl (Nat.le_of_ble_eq_true rfl) ?_
  intro pp ee ss mm bb mt cd ls cx hsz hw hl
  have hl : lv_has ls 2 [(0, .ref (ad 137)), (1, .int a1)] := hl
  refine lv_iload_n cx.1 cx.2.1 dX12_at_0 rfl (lv_at hl 1 rfl) ?_
  refine lv_aload_n cx.1 cx.2.1 dX12_at_1 rfl (lv_at hl 0 rfl) ?_
  refine md_gI (k := 4) cx hw hin12c rfl (by decide) (List.mem_cons_of_mem _ mm_7) dX12_at_2 ?_
  refine lv_icmp_ge (tgt := 17) cx.1 cx.2.1 dX12_at_5 (by decide) (fun c5 => ?_) (fun c5 => ?_)
  · have h := md_ip c5 h
    refine lv_iconst (v := (-1)) cx.1 cx.2.1 dX12_at_17 (by decide) ?_
    exact hp_iret cx hw (md_ret h) dX12_at_18
  · have h := md_in c5 h
    refine lv_aload_n cx.1 cx.2.1 dX12_at_8 rfl (lv_at hl 0 rfl) ?_
    refine md_gR (k := 3) cx hw hin12c (by decide) (by decide) (List.mem_cons_of_mem _ mm_8) dX12_at_9 ?_
    refine lv_iload_n cx.1 cx.2.1 dX12_at_12 rfl (lv_at hl 1 rfl) ?_
    obtain ⟨v1, e_v1, h⟩ := md_ob h
    refine md_lI (k := 3) hj cx hw (by decide) rfl rfl rfl e_v1 dX12_at_13 ?_
    refine lv_goto (tgt := 18) cx.1 cx.2.1 dX12_at_14 (by decide) ?_
    exact hp_iret cx hw (md_ret h) dX12_at_18
set_option maxHeartbeats 4000000 in
set_option maxRecDepth 100000 in
theorem km_X12_isLetter (l : Launch) (D : va_G) (cA : Nat → ClassId) (E : hp_N) (sz : Nat) (ad : Nat → Nat) (hj : md_inj ad) (hE : md_E E) (n : Nat) (σ0 : md_S) (a0 : Int32) (p : (Int32 × md_S)) (h : f_X12_isLetter n σ0 a0 = some p) : Met l yX12_isLetter (Cond.code yX12_isLetter cX12_isLetter 1 (some .boolean) :: v_MOD) ({ frames := 1, cells := 0, slots := 0, locals := 25 }) (hp_Pc D vwCl (hp_Tl cA) E sz (md_pic cA ad σ0) [.int a0]) (hp_Qi D vwCl (hp_Tl cA) sz (md_pic cA ad σ0) (fun r u => r = p.1 ∧ u = md_pic cA ad p.2)) 0 0 (hp_A (md_pic cA ad σ0) sz) := by
  refine hp_ofW (cc := cX12_isLetter) (maxL := 1) (ret := (some .boolean)) (by decide) rfl (Nat.le_of_ble_eq_true rfl) ?_
  intro pp ee ss mm bb mt cd ls cx hsz hw hl
  have hl : lv_has ls 1 [(0, .int a0)] := hl
  refine lv_iload_n cx.1 cx.2.1 dX12_isLetter_0 rfl (lv_at hl 0 rfl) ?_
  refine lv_i2l (v := (a0.toInt64)) cx.1 cx.2.1 dX12_isLetter_1 rfl ?_
  refine lv_ldc2 cx.1 cx.2.1 cx.2.2.2.2.1 (cx.2.2.2.2.2.1 _ (List.mem_cons_of_mem _ mm_9)) dX12_isLetter_2 ?_
  refine lv_ldc2 cx.1 cx.2.1 cx.2.2.2.2.1 (cx.2.2.2.2.2.1 _ (List.mem_cons_of_mem _ mm_10)) dX12_isLetter_5 ?_
  obtain ⟨p1, e_p1, h⟩ := md_ob h
  refine hp_callSi (As := [.long (a0.toInt64), .long 97, .long 122]) (rest := []) cx hw (km_X12_in l D cA E _ ad hj hE n σ0 ((a0.toInt64)) (97 : Int64) (122 : Int64) p1 e_p1) (cwS 3 cx.2.2.2.2.2.1 (md_giS mm_3 mm_4 mm_5 mm_6) rfl rfl rfl hd_X12_in ⟨Nat.le_of_ble_eq_true rfl, Nat.le_of_ble_eq_true rfl⟩) rfl hl.1 rfl (Nat.le_of_ble_eq_true rfl) dX12_isLetter_8 ⟨Nat.le_refl _, Nat.le_refl _⟩ (fun r u H locs hp hw => ?_)
  obtain ⟨rfl, rfl⟩ := hp
  obtain ⟨z2, e_z2, h⟩ := md_ob h
  rw [(md_zbs e_z2).1] at h
  exact hp_zret cx hw (md_ret h) (md_nbn (md_zbs e_z2).2) dX12_isLetter_11
set_option maxHeartbeats 4000000 in
set_option maxRecDepth 100000 in
theorem km_X12_isDigit (l : Launch) (D : va_G) (cA : Nat → ClassId) (E : hp_N) (sz : Nat) (ad : Nat → Nat) (hj : md_inj ad) (hE : md_E E) (n : Nat) (σ0 : md_S) (a0 : Int32) (p : (Int32 × md_S)) (h : f_X12_isDigit n σ0 a0 = some p) : Met l yX12_isDigit (Cond.code yX12_isDigit cX12_isDigit 1 (some .boolean) :: v_MOD) ({ frames := 1, cells := 0, slots := 0, locals := 25 }) (hp_Pc D vwCl (hp_Tl cA) E sz (md_pic cA ad σ0) [.int a0]) (hp_Qi D vwCl (hp_Tl cA) sz (md_pic cA ad σ0) (fun r u => r = p.1 ∧ u = md_pic cA ad p.2)) 0 0 (hp_A (md_pic cA ad σ0) sz) := by
  refine hp_ofW (cc := cX12_isDigit) (maxL := 1) (ret := (some .boolean)) (by decide) rfl (Nat.le_of_ble_eq_true rfl) ?_
  intro pp ee ss mm bb mt cd ls cx hsz hw hl
  have hl : lv_has ls 1 [(0, .int a0)] := hl
  refine lv_iload_n cx.1 cx.2.1 dX12_isDigit_0 rfl (lv_at hl 0 rfl) ?_
  refine lv_i2l (v := (a0.toInt64)) cx.1 cx.2.1 dX12_isDigit_1 rfl ?_
  refine lv_ldc2 cx.1 cx.2.1 cx.2.2.2.2.1 (cx.2.2.2.2.2.1 _ (List.mem_cons_of_mem _ mm_11)) dX12_isDigit_2 ?_
  refine lv_ldc2 cx.1 cx.2.1 cx.2.2.2.2.1 (cx.2.2.2.2.2.1 _ (List.mem_cons_of_mem _ mm_12)) dX12_isDigit_5 ?_
  obtain ⟨p1, e_p1, h⟩ := md_ob h
  refine hp_callSi (As := [.long (a0.toInt64), .long 48, .long 57]) (rest := []) cx hw (km_X12_in l D cA E _ ad hj hE n σ0 ((a0.toInt64)) (48 : Int64) (57 : Int64) p1 e_p1) (cwS 3 cx.2.2.2.2.2.1 (md_giS mm_3 mm_4 mm_5 mm_6) rfl rfl rfl hd_X12_in ⟨Nat.le_of_ble_eq_true rfl, Nat.le_of_ble_eq_true rfl⟩) rfl hl.1 rfl (Nat.le_of_ble_eq_true rfl) dX12_isDigit_8 ⟨Nat.le_refl _, Nat.le_refl _⟩ (fun r u H locs hp hw => ?_)
  obtain ⟨rfl, rfl⟩ := hp
  obtain ⟨z2, e_z2, h⟩ := md_ob h
  rw [(md_zbs e_z2).1] at h
  exact hp_zret cx hw (md_ret h) (md_nbn (md_zbs e_z2).2) dX12_isDigit_11
set_option maxHeartbeats 4000000 in
set_option maxRecDepth 100000 in
theorem km_X12_isFine (l : Launch) (D : va_G) (cA : Nat → ClassId) (E : hp_N) (sz : Nat) (ad : Nat → Nat) (hj : md_inj ad) (hE : md_E E) (n : Nat) (σ0 : md_S) (p : (Int32 × md_S)) (h : f_X12_isFine n σ0 = some p) : Met l yX12_isFine (Cond.code yX12_isFine cX12_isFine 1 (some .boolean) :: v_MOD) ({ frames := 0, cells := 0, slots := 0, locals := 0 }) (hp_Pc D vwCl (hp_Tl cA) E sz (md_pic cA ad σ0) [.ref (ad 137)]) (hp_Qi D vwCl (hp_Tl cA) sz (md_pic cA ad σ0) (fun r u => r = p.1 ∧ u = md_pic cA ad p.2)) 0 0 (hp_A (md_pic cA ad σ0) sz) := by
  refine hp_ofW (cc := cX12_isFine) (maxL := 1) (ret := (some .boolean)) (by decide) rfl (Nat.le_of_ble_eq_true rfl) ?_
  intro pp ee ss mm bb mt cd ls cx hsz hw hl
  have hl : lv_has ls 1 [(0, .ref (ad 137))] := hl
  refine lv_aload_n cx.1 cx.2.1 dX12_isFine_0 rfl (lv_at hl 0 rfl) ?_
  refine md_gI (k := 6) cx hw hin12c rfl (by decide) (List.mem_cons_of_mem _ mm_13) dX12_isFine_1 ?_
  refine lv_if_ne (tgt := 11) cx.1 cx.2.1 dX12_isFine_4 (by decide) (fun c4 => ?_) (fun c4 => ?_)
  · have h := md_in c4 h
    refine lv_iconst (v := 0) cx.1 cx.2.1 dX12_isFine_11 (by decide) ?_
    exact hp_zret cx hw (md_ret h) (by decide) dX12_isFine_12
  · have h := md_ip c4 h
    refine lv_iconst (v := 1) cx.1 cx.2.1 dX12_isFine_7 (by decide) ?_
    refine lv_goto (tgt := 12) cx.1 cx.2.1 dX12_isFine_8 (by decide) ?_
    exact hp_zret cx hw (md_ret h) (by decide) dX12_isFine_12
set_option maxHeartbeats 4000000 in
set_option maxRecDepth 100000 in
theorem km_X12_failsAt (l : Launch) (D : va_G) (cA : Nat → ClassId) (E : hp_N) (sz : Nat) (ad : Nat → Nat) (hj : md_inj ad) (hE : md_E E) (n : Nat) (σ0 : md_S) (a1 : Int32) (a2 : Int32) (p : (Int32 × md_S)) (h : f_X12_failsAt n σ0 a1 a2 = some p) : Met l yX12_failsAt (Cond.code yX12_failsAt cX12_failsAt 3 none :: v_MOD) ({ frames := 0, cells := 0, slots := 0, locals := 0 }) (hp_Pc D vwCl (hp_Tl cA) E sz (md_pic cA ad σ0) [.ref (ad 137), .int a1, .int a2]) (hp_Qv D vwCl (hp_Tl cA) sz (md_pic cA ad σ0) (fun u => u = md_pic cA ad p.2)) 0 0 (hp_A (md_pic cA ad σ0) sz) := by
  refine hp_ofW (cc := cX12_failsAt) (maxL := 3) (ret := none) (by decide) rfl (Nat.le_of_ble_eq_true rfl) ?_
  intro pp ee ss mm bb mt cd ls cx hsz hw hl
  have hl : lv_has ls 3 [(0, .ref (ad 137)), (1, .int a1), (2, .int a2)] := hl
  have J17 : ∀ (σ : md_S) (H : Heap) (locs : List Loc) (ls : Array Slot), f_X12_failsAt_J17 n σ = some p → hp_w D vwCl (hp_Tl cA) E (hp_A (md_pic cA ad σ0) sz) ss H locs (md_pic cA ad σ) → lv_has ls 3 [(0, .ref (ad 137))] → W pp l ee ({ frames := 0, cells := 0, slots := 0, locals := 0 }) ss mm [.ref (ad 137), .int a1, .int a2].toArray bb mt cd H locs 0 0 (MQ bb (hp_Qv D vwCl (hp_Tl cA) sz (md_pic cA ad σ0) (fun u => u = md_pic cA ad p.2)) [.ref (ad 137), .int a1, .int a2].toArray ss 0 0 (hp_A (md_pic cA ad σ0) sz)) (F0 mm 17 ls []) := by
    intro σ H locs ls h hw hl
    refine lv_aload_n cx.1 cx.2.1 dX12_failsAt_17 rfl (lv_at hl 0 rfl) ?_
    refine lv_iconst (v := 0) cx.1 cx.2.1 dX12_failsAt_18 (by decide) ?_
    obtain ⟨σ1, e_σ1, h⟩ := md_ob h
    refine md_pI (k := 8) cx hw hin12c rfl (by decide) rfl (List.mem_cons_of_mem _ mm_15) rfl e_σ1 dX12_failsAt_19 (fun H locs hw => ?_)
    exact hp_vret cx hw (md_retv h) dX12_failsAt_22
  refine lv_aload_n cx.1 cx.2.1 dX12_failsAt_0 rfl (lv_at hl 0 rfl) ?_
  refine md_gI (k := 6) cx hw hin12c rfl (by decide) (List.mem_cons_of_mem _ mm_13) dX12_failsAt_1 ?_
  refine lv_if_ne (tgt := 17) cx.1 cx.2.1 dX12_failsAt_4 (by decide) (fun c4 => ?_) (fun c4 => ?_)
  · have h := md_in c4 h
    exact J17 σ0 _ _ _ h hw (lv_sub hl [0] rfl)
  · have h := md_ip c4 h
    refine lv_aload_n cx.1 cx.2.1 dX12_failsAt_7 rfl (lv_at hl 0 rfl) ?_
    refine lv_iload_n cx.1 cx.2.1 dX12_failsAt_8 rfl (lv_at hl 1 rfl) ?_
    obtain ⟨σ2, e_σ2, h⟩ := md_ob h
    refine md_pI (k := 6) cx hw hin12c rfl (by decide) rfl (List.mem_cons_of_mem _ mm_13) rfl e_σ2 dX12_failsAt_9 (fun H locs hw => ?_)
    refine lv_aload_n cx.1 cx.2.1 dX12_failsAt_12 rfl (lv_at hl 0 rfl) ?_
    refine lv_iload_n cx.1 cx.2.1 dX12_failsAt_13 rfl (lv_at hl 2 rfl) ?_
    obtain ⟨σ3, e_σ3, h⟩ := md_ob h
    refine md_pI (k := 7) cx hw hin12c rfl (by decide) rfl (List.mem_cons_of_mem _ mm_14) rfl e_σ3 dX12_failsAt_14 (fun H locs hw => ?_)
    exact J17 σ3 _ _ _ h hw (lv_sub hl [0] rfl)
set_option maxHeartbeats 4000000 in
set_option maxRecDepth 100000 in
theorem km_X12_fails (l : Launch) (D : va_G) (cA : Nat → ClassId) (E : hp_N) (sz : Nat) (ad : Nat → Nat) (hj : md_inj ad) (hE : md_E E) (n : Nat) (σ0 : md_S) (a1 : Int32) (p : (Int32 × md_S)) (h : f_X12_fails n σ0 a1 = some p) : Met l yX12_fails (Cond.code yX12_fails cX12_fails 2 none :: v_MOD) ({ frames := 1, cells := 0, slots := 0, locals := 22 }) (hp_Pc D vwCl (hp_Tl cA) E sz (md_pic cA ad σ0) [.ref (ad 137), .int a1]) (hp_Qv D vwCl (hp_Tl cA) sz (md_pic cA ad σ0) (fun u => u = md_pic cA ad p.2)) 0 0 (hp_A (md_pic cA ad σ0) sz) := by
  refine hp_ofW (cc := cX12_fails) (maxL := 2) (ret := none) (by decide) rfl (Nat.le_of_ble_eq_true rfl) ?_
  intro pp ee ss mm bb mt cd ls cx hsz hw hl
  have hl : lv_has ls 2 [(0, .ref (ad 137)), (1, .int a1)] := hl
  refine lv_aload_n cx.1 cx.2.1 dX12_fails_0 rfl (lv_at hl 0 rfl) ?_
  refine lv_iload_n cx.1 cx.2.1 dX12_fails_1 rfl (lv_at hl 1 rfl) ?_
  refine lv_aload_n cx.1 cx.2.1 dX12_fails_2 rfl (lv_at hl 0 rfl) ?_
  refine md_gI (k := 9) cx hw hin12c rfl (by decide) (List.mem_cons_of_mem _ mm_16) dX12_fails_3 ?_
  obtain ⟨p1, e_p1, h⟩ := md_ob h
  refine hp_callVv (As := [.int a1, .int (mI σ0 9)]) (rest := []) cx hw (km_X12_failsAt l D cA E _ ad hj hE n σ0 a1 ((mI σ0 9)) p1 e_p1) (cwV 2 cx.2.2.2.2.2.1 (md_giV mm_17 mm_18 mm_19 mm_5 mm_20) rfl rfl rfl hd_X12_failsAt ⟨Nat.le_of_ble_eq_true rfl, Nat.le_of_ble_eq_true rfl⟩) md_at0 rfl rfl hl.1 rfl (Nat.le_of_ble_eq_true rfl) dX12_fails_6 ⟨Nat.le_refl _, Nat.le_refl _⟩ (fun u H locs hp hw => ?_)
  obtain rfl := hp
  exact hp_vret cx hw (md_retv h) dX12_fails_9
set_option maxHeartbeats 4000000 in
set_option maxRecDepth 100000 in
theorem km_X12_digitOf (l : Launch) (D : va_G) (cA : Nat → ClassId) (E : hp_N) (sz : Nat) (ad : Nat → Nat) (hj : md_inj ad) (hE : md_E E) (n : Nat) (σ0 : md_S) (a0 : Int32) (p : (Int32 × md_S)) (h : f_X12_digitOf n σ0 a0 = some p) : Met l yX12_digitOf (Cond.code yX12_digitOf cX12_digitOf 1 (some .int) :: v_MOD) ({ frames := 2, cells := 0, slots := 0, locals := 45 }) (hp_Pc D vwCl (hp_Tl cA) E sz (md_pic cA ad σ0) [.int a0]) (hp_Qi D vwCl (hp_Tl cA) sz (md_pic cA ad σ0) (fun r u => r = p.1 ∧ u = md_pic cA ad p.2)) 0 0 (hp_A (md_pic cA ad σ0) sz) := by
  refine hp_ofW (cc := cX12_digitOf) (maxL := 1) (ret := (some .int)) (by decide) rfl (Nat.le_of_ble_eq_true rfl) ?_
  intro pp ee ss mm bb mt cd ls cx hsz hw hl
  have hl : lv_has ls 1 [(0, .int a0)] := hl
  refine lv_iload_n cx.1 cx.2.1 dX12_digitOf_0 rfl (lv_at hl 0 rfl) ?_
  obtain ⟨p1, e_p1, h⟩ := md_ob h
  refine hp_callSi (As := [.int a0]) (rest := []) cx hw (km_X12_isLetter l D cA E _ ad hj hE n σ0 a0 p1 e_p1) (cwS 1 cx.2.2.2.2.2.1 (md_giS mm_21 mm_22 mm_5 mm_23) rfl rfl rfl hd_X12_isLetter ⟨Nat.le_of_ble_eq_true rfl, Nat.le_of_ble_eq_true rfl⟩) rfl hl.1 rfl (Nat.le_of_ble_eq_true rfl) dX12_digitOf_1 ⟨Nat.le_refl _, Nat.le_refl _⟩ (fun r u H locs hp hw => ?_)
  obtain ⟨rfl, rfl⟩ := hp
  refine lv_if_eq (tgt := 16) cx.1 cx.2.1 dX12_digitOf_4 (by decide) (fun c4 => ?_) (fun c4 => ?_)
  · have h := md_ip c4 h
    refine lv_iload_n cx.1 cx.2.1 dX12_digitOf_16 rfl (lv_at hl 0 rfl) ?_
    refine lv_bipush (v := 48) cx.1 cx.2.1 dX12_digitOf_17 (by decide) ?_
    refine lv_isub cx.1 cx.2.1 dX12_digitOf_19 ?_
    refine lv_bipush (v := 27) cx.1 cx.2.1 dX12_digitOf_20 (by decide) ?_
    refine lv_iadd cx.1 cx.2.1 dX12_digitOf_22 ?_
    exact hp_iret cx hw (md_ret h) dX12_digitOf_23
  · have h := md_in c4 h
    refine lv_iload_n cx.1 cx.2.1 dX12_digitOf_7 rfl (lv_at hl 0 rfl) ?_
    refine lv_bipush (v := 97) cx.1 cx.2.1 dX12_digitOf_8 (by decide) ?_
    refine lv_isub cx.1 cx.2.1 dX12_digitOf_10 ?_
    refine lv_iconst (v := 1) cx.1 cx.2.1 dX12_digitOf_11 (by decide) ?_
    refine lv_iadd cx.1 cx.2.1 dX12_digitOf_12 ?_
    refine lv_goto (tgt := 23) cx.1 cx.2.1 dX12_digitOf_13 (by decide) ?_
    exact hp_iret cx hw (md_ret h) dX12_digitOf_23
set_option maxHeartbeats 4000000 in
set_option maxRecDepth 100000 in
theorem km_X12_codeOf (l : Launch) (D : va_G) (cA : Nat → ClassId) (E : hp_N) (sz : Nat) (ad : Nat → Nat) (hj : md_inj ad) (hE : md_E E) (sq sv : Nat) (hst : st_str E sq sv 113 md_kwb) (n : Nat) (σ0 : md_S) (a1 : Int32) (a2 : Int32) (p : (Int64 × md_S)) (h : f_X12_codeOf n σ0 a1 a2 = some p) : Met l yX12_codeOf (Cond.code yX12_codeOf cX12_codeOf 6 (some .long) :: v_MOD) ({ frames := 4, cells := 0, slots := 0, locals := 101 }) (hp_Pc D vwCl (hp_Tl cA) E sz (md_pic cA ad σ0) [.ref sq, .int a1, .int a2]) (hp_Ql D vwCl (hp_Tl cA) sz (md_pic cA ad σ0) (fun r u => r = p.1 ∧ u = md_pic cA ad p.2)) 0 0 (hp_A (md_pic cA ad σ0) sz) := by
  refine hp_ofW (cc := cX12_codeOf) (maxL := 6) (ret := (some .long)) (by decide) rfl (Nat.le_of_ble_eq_true rfl) ?_
  intro pp ee ss mm bb mt cd ls cx hsz hw hl
  have hl : lv_has ls 6 [(0, .ref sq), (1, .int a1), (2, .int a2)] := hl
  refine lv_lconst (v := 0) cx.1 cx.2.1 dX12_codeOf_0 (by decide) ?_
  refine lv_lstore_n (lv' := [(3, .long 0), (0, .ref sq), (1, .int a1), (2, .int a2)]) cx.1 cx.2.1 dX12_codeOf_1 rfl hl (by decide) rfl (fun ls hl => ?_)
  refine lv_iload_n cx.1 cx.2.1 dX12_codeOf_2 rfl (lv_at hl 2 rfl) ?_
  refine lv_istore (lv' := [(5, .int a1), (3, .long 0), (0, .ref sq), (1, .int a1), (2, .int a2)]) cx.1 cx.2.1 dX12_codeOf_3 hl (by decide) rfl (fun ls hl => ?_)
  have L5 : ∀ (j : Nat) (σ : md_S) (l2 : Int32) (l3 : Int64) (l5 : Int32) (q : (md_S × Int64 × Int32)) (H : Heap) (locs : List Loc) (ls : Array Slot), f_X12_codeOf_L5 n l2 j σ l3 l5 = some q → hp_w D vwCl (hp_Tl cA) E (hp_A (md_pic cA ad σ0) sz) ss H locs (md_pic cA ad σ) → lv_has ls 6 [(0, .ref sq), (2, .int l2), (3, .long l3), (5, .int l5)] → (∀ (H : Heap) (locs : List Loc) (ls : Array Slot), hp_w D vwCl (hp_Tl cA) E (hp_A (md_pic cA ad σ0) sz) ss H locs (md_pic cA ad q.1) → lv_has ls 6 [(3, .long q.2.1)] → W pp l ee ({ frames := 4, cells := 0, slots := 0, locals := 101 }) ss mm [.ref sq, .int a1, .int a2].toArray bb mt cd H locs 0 0 (MQ bb (hp_Ql D vwCl (hp_Tl cA) sz (md_pic cA ad σ0) (fun r u => r = p.1 ∧ u = md_pic cA ad p.2)) [.ref sq, .int a1, .int a2].toArray ss 0 0 (hp_A (md_pic cA ad σ0) sz)) (F0 mm 34 ls [])) → W pp l ee ({ frames := 4, cells := 0, slots := 0, locals := 101 }) ss mm [.ref sq, .int a1, .int a2].toArray bb mt cd H locs 0 0 (MQ bb (hp_Ql D vwCl (hp_Tl cA) sz (md_pic cA ad σ0) (fun r u => r = p.1 ∧ u = md_pic cA ad p.2)) [.ref sq, .int a1, .int a2].toArray ss 0 0 (hp_A (md_pic cA ad σ0) sz)) (F0 mm 5 ls []) := by
    intro j
    induction j with
    | zero => intro σ l2 l3 l5 q H locs ls h; exact nomatch h
    | succ j ih =>
      intro σ l2 l3 l5 q H locs ls h hw hl K
      refine lv_iload cx.1 cx.2.1 dX12_codeOf_5 (lv_at hl 3 rfl) ?_
      refine lv_iload_n cx.1 cx.2.1 dX12_codeOf_7 rfl (lv_at hl 1 rfl) ?_
      refine lv_icmp_ge (tgt := 34) cx.1 cx.2.1 dX12_codeOf_8 (by decide) (fun c8 => ?_) (fun c8 => ?_)
      · have h := md_ip c8 h
        obtain rfl := Option.some.inj h
        exact K _ _ _ hw (lv_sub hl [2] rfl)
      · have h := md_in c8 h
        refine lv_ldc2 cx.1 cx.2.1 cx.2.2.2.2.1 (cx.2.2.2.2.2.1 _ (List.mem_cons_of_mem _ mm_24)) dX12_codeOf_11 ?_
        refine lv_lload_n cx.1 cx.2.1 dX12_codeOf_14 rfl (lv_at hl 2 rfl) ?_
        refine lv_lmul cx.1 cx.2.1 dX12_codeOf_15 ?_
        refine lv_aload_n cx.1 cx.2.1 dX12_codeOf_16 rfl (lv_at hl 0 rfl) ?_
        refine lv_iload cx.1 cx.2.1 dX12_codeOf_17 (lv_at hl 3 rfl) ?_
        obtain ⟨v1, e_v1, h⟩ := md_ob h
        refine hp_callKi (As := [.int l5]) (rest := [.long ((37 : Int64) * l3)]) cx hw (k_Str_charAt l D cA E _ _ hE.2.1 hE.1 sq sv 113 md_kwb hst (by decide) l5 (md_chs e_v1).1 (md_chs e_v1).2.1) (cwV 1 cx.2.2.2.2.2.1 (md_giK mm_25 mm_26 mm_27 mm_28 hin_J0_charAt_5068e) rfl rfl rfl (by decide +kernel) ⟨Nat.le_of_ble_eq_true rfl, Nat.le_of_ble_eq_true rfl⟩) (hst _ _ _ hw.2.2.2.2.2).1 rfl hl.1 rfl (Nat.le_of_ble_eq_true rfl) dX12_codeOf_19 ⟨Nat.le_refl _, Nat.le_refl _⟩ (fun r u H locs hp hw => ?_)
        obtain ⟨rfl, hr⟩ := hp
        obtain rfl : v1 = r := (hr.trans (md_chs e_v1).2.2.symm).symm
        obtain ⟨p2, e_p2, h⟩ := md_ob h
        refine hp_callSi (As := [.int v1]) (rest := [.long ((37 : Int64) * l3)]) cx hw (km_X12_digitOf l D cA E _ ad hj hE n σ v1 p2 e_p2) (cwS 1 cx.2.2.2.2.2.1 (md_giS mm_29 mm_30 mm_5 mm_31) rfl rfl rfl hd_X12_digitOf ⟨Nat.le_of_ble_eq_true rfl, Nat.le_of_ble_eq_true rfl⟩) rfl hl.1 rfl (Nat.le_of_ble_eq_true rfl) dX12_codeOf_22 ⟨Nat.le_refl _, Nat.le_refl _⟩ (fun r u H locs hp hw => ?_)
        obtain ⟨rfl, rfl⟩ := hp
        refine lv_i2l (v := (p2.1.toInt64)) cx.1 cx.2.1 dX12_codeOf_25 rfl ?_
        refine lv_ladd cx.1 cx.2.1 dX12_codeOf_26 ?_
        refine lv_lstore_n (lv' := [(3, .long (((37 : Int64) * l3) + (p2.1.toInt64))), (0, .ref sq), (2, .int l2), (5, .int l5)]) cx.1 cx.2.1 dX12_codeOf_27 rfl hl (by decide) rfl (fun ls hl => ?_)
        refine lv_iinc (v := (l5 + 1)) (lv' := [(5, .int (l5 + 1)), (3, .long (((37 : Int64) * l3) + (p2.1.toInt64))), (0, .ref sq), (2, .int l2)]) cx.1 cx.2.1 dX12_codeOf_28 hl (k := 3) rfl rfl (by decide) rfl (fun ls hl => ?_)
        refine lv_goto (tgt := 5) cx.1 cx.2.1 dX12_codeOf_31 (by decide) ?_
        exact ih p2.2 l2 ((((37 : Int64) * l3) + (p2.1.toInt64))) ((l5 + 1)) q _ _ _ h hw (lv_sub hl [2, 3, 1, 0] rfl) K
  obtain ⟨q3, e_q3, h⟩ := md_ob h
  refine L5 n σ0 a2 0 a1 q3 _ _ _ e_q3 hw (lv_sub hl [2, 4, 1, 0] rfl) (fun H locs ls hw hl => ?_)
  refine lv_lload_n cx.1 cx.2.1 dX12_codeOf_34 rfl (lv_at hl 0 rfl) ?_
  exact hp_lret cx hw (md_ret h) dX12_codeOf_35
set_option maxHeartbeats 4000000 in
set_option maxRecDepth 100000 in
theorem km_X12_keywordOf (l : Launch) (D : va_G) (cA : Nat → ClassId) (E : hp_N) (sz : Nat) (ad : Nat → Nat) (hj : md_inj ad) (hE : md_E E) (n : Nat) (σ0 : md_S) (a0 : Int64) (p : (Int32 × md_S)) (h : f_X12_keywordOf n σ0 a0 = some p) : Met l yX12_keywordOf (Cond.code yX12_keywordOf cX12_keywordOf 5 (some .int) :: v_MOD) ({ frames := 5, cells := 0, slots := 0, locals := 132 }) (hp_Pc D vwCl (hp_Tl cA) E sz (md_pic cA ad σ0) [.long a0]) (hp_Qi D vwCl (hp_Tl cA) sz (md_pic cA ad σ0) (fun r u => r = p.1 ∧ u = md_pic cA ad p.2)) 0 0 (hp_A (md_pic cA ad σ0) sz) := by
  refine hp_ofW (cc := cX12_keywordOf) (maxL := 5) (ret := (some .int)) (by decide) rfl (Nat.le_of_ble_eq_true rfl) ?_
  intro pp ee ss mm bb mt cd ls cx hsz hw hl
  have hl : lv_has ls 5 [(0, .long a0)] := hl
  obtain ⟨sq, sv, hst, hkr⟩ := hE.2.2
  refine lv_iconst (v := 0) cx.1 cx.2.1 dX12_keywordOf_0 (by decide) ?_
  refine lv_istore_n (lv' := [(2, .int 0), (0, .long a0)]) cx.1 cx.2.1 dX12_keywordOf_1 rfl hl (by decide) rfl (fun ls hl => ?_)
  refine lv_iconst (v := 0) cx.1 cx.2.1 dX12_keywordOf_2 (by decide) ?_
  refine lv_istore_n (lv' := [(3, .int 0), (2, .int 0), (0, .long a0)]) cx.1 cx.2.1 dX12_keywordOf_3 rfl hl (by decide) rfl (fun ls hl => ?_)
  have L4 : ∀ (j : Nat) (σ : md_S) (l0 : Int64) (l2 : Int32) (l3 : Int32) (q : ((Int32 × md_S) ⊕ (md_S × Int32 × Int32))) (H : Heap) (locs : List Loc) (ls : Array Slot), f_X12_keywordOf_L4 n l0 j σ l2 l3 = some q → hp_w D vwCl (hp_Tl cA) E (hp_A (md_pic cA ad σ0) sz) ss H locs (md_pic cA ad σ) → lv_has ls 5 [(0, .long l0), (2, .int l2), (3, .int l3)] → (∀ t, q = Sum.inr t → ∀ (H : Heap) (locs : List Loc) (ls : Array Slot), hp_w D vwCl (hp_Tl cA) E (hp_A (md_pic cA ad σ0) sz) ss H locs (md_pic cA ad t.1) → lv_has ls 5 [] → W pp l ee ({ frames := 5, cells := 0, slots := 0, locals := 132 }) ss mm [.long a0].toArray bb mt cd H locs 0 0 (MQ bb (hp_Qi D vwCl (hp_Tl cA) sz (md_pic cA ad σ0) (fun r u => r = p.1 ∧ u = md_pic cA ad p.2)) [.long a0].toArray ss 0 0 (hp_A (md_pic cA ad σ0) sz)) (F0 mm 52 ls [])) → (∀ r, q = Sum.inl r → r = p) → W pp l ee ({ frames := 5, cells := 0, slots := 0, locals := 132 }) ss mm [.long a0].toArray bb mt cd H locs 0 0 (MQ bb (hp_Qi D vwCl (hp_Tl cA) sz (md_pic cA ad σ0) (fun r u => r = p.1 ∧ u = md_pic cA ad p.2)) [.long a0].toArray ss 0 0 (hp_A (md_pic cA ad σ0) sz)) (F0 mm 4 ls []) := by
    intro j
    induction j with
    | zero => intro σ l0 l2 l3 q H locs ls h; exact nomatch h
    | succ j ih =>
      intro σ l0 l2 l3 q H locs ls h hw hl K KR
      refine lv_iload_n cx.1 cx.2.1 dX12_keywordOf_4 rfl (lv_at hl 2 rfl) ?_
      refine hp_ldcSW cx.1 cx.2.1 cx.2.2.2.2.1 (hkr _ _ _ hw.2.2.2.2.2) dX12_keywordOf_5 ?_
      refine hp_callKi (As := []) (rest := [.int l3]) cx hw (k_Str_length l D cA E _ _ hE.1 sq sv 113 md_kwb hst (by decide)) (cwV 0 cx.2.2.2.2.2.1 (md_giK mm_32 mm_33 mm_34 mm_28 hin_J0_length_8abf5) rfl rfl rfl (by decide +kernel) ⟨Nat.le_of_ble_eq_true rfl, Nat.le_of_ble_eq_true rfl⟩) (hst _ _ _ hw.2.2.2.2.2).1 rfl hl.1 rfl (Nat.le_of_ble_eq_true rfl) dX12_keywordOf_8 ⟨Nat.le_refl _, Nat.le_refl _⟩ (fun r u H locs hp hw => ?_)
      obtain ⟨rfl, rfl⟩ := hp
      refine lv_icmp_ge (tgt := 52) cx.1 cx.2.1 dX12_keywordOf_11 (by decide) (fun c11 => ?_) (fun c11 => ?_)
      · have h := md_ip c11 h
        exact K _ (Option.some.inj h).symm _ _ _ hw (lv_sub hl [] rfl)
      · have h := md_in c11 h
        refine hp_ldcSW cx.1 cx.2.1 cx.2.2.2.2.1 (hkr _ _ _ hw.2.2.2.2.2) dX12_keywordOf_14 ?_
        refine lv_bipush (v := 32) cx.1 cx.2.1 dX12_keywordOf_17 (by decide) ?_
        refine lv_iload_n cx.1 cx.2.1 dX12_keywordOf_19 rfl (lv_at hl 2 rfl) ?_
        obtain ⟨v2, e_v2, h⟩ := md_ob h
        obtain ⟨f0, hf0, hk0, hv0⟩ := md_ixs e_v2
        refine hp_callKi (As := [.int 32, .int l3]) (rest := []) cx hw (md_ixM (l := l) hE.1 hst hk0 hf0) (cwV 2 cx.2.2.2.2.2.1 (md_giK mm_35 mm_36 mm_37 mm_28 hin_J0_indexOf_7cf53) rfl rfl rfl (by decide +kernel) ⟨Nat.le_of_ble_eq_true rfl, Nat.le_of_ble_eq_true rfl⟩) (hst _ _ _ hw.2.2.2.2.2).1 rfl hl.1 rfl (Nat.le_of_ble_eq_true rfl) dX12_keywordOf_20 ⟨Nat.le_refl _, Nat.le_refl _⟩ (fun r u H locs hp hw => ?_)
        obtain ⟨rfl, hr⟩ := hp
        obtain rfl : v2 = r := (hr.trans hv0.symm).symm
        refine lv_istore (lv' := [(4, .int v2), (0, .long l0), (2, .int l2), (3, .int l3)]) cx.1 cx.2.1 dX12_keywordOf_23 hl (by decide) rfl (fun ls hl => ?_)
        refine hp_ldcSW cx.1 cx.2.1 cx.2.2.2.2.1 (hkr _ _ _ hw.2.2.2.2.2) dX12_keywordOf_25 ?_
        refine lv_iload_n cx.1 cx.2.1 dX12_keywordOf_28 rfl (lv_at hl 3 rfl) ?_
        refine lv_iload cx.1 cx.2.1 dX12_keywordOf_29 (lv_at hl 0 rfl) ?_
        obtain ⟨p3, e_p3, h⟩ := md_ob h
        refine hp_callSl (As := [.ref sq, .int l3, .int v2]) (rest := []) cx hw (km_X12_codeOf l D cA E _ ad hj hE sq sv hst n σ l3 v2 p3 e_p3) (cwS 3 cx.2.2.2.2.2.1 (md_giS mm_38 mm_39 mm_5 mm_40) rfl rfl rfl hd_X12_codeOf ⟨Nat.le_of_ble_eq_true rfl, Nat.le_of_ble_eq_true rfl⟩) rfl hl.1 rfl (Nat.le_of_ble_eq_true rfl) dX12_keywordOf_31 ⟨Nat.le_refl _, Nat.le_refl _⟩ (fun r u H locs hp hw => ?_)
        obtain ⟨rfl, rfl⟩ := hp
        refine lv_lload_n cx.1 cx.2.1 dX12_keywordOf_34 rfl (lv_at hl 1 rfl) ?_
        refine W.lcmp cx.1 cx.2.1 dX12_keywordOf_35 ?_
        refine lv_if_ne (tgt := 41) cx.1 cx.2.1 dX12_keywordOf_36 (by decide) (fun c36 => ?_) (fun c36 => ?_)
        · have h := md_in c36 h
          refine lv_iload cx.1 cx.2.1 dX12_keywordOf_41 (lv_at hl 0 rfl) ?_
          refine lv_iconst (v := 1) cx.1 cx.2.1 dX12_keywordOf_43 (by decide) ?_
          refine lv_iadd cx.1 cx.2.1 dX12_keywordOf_44 ?_
          refine lv_istore_n (lv' := [(3, .int (v2 + 1)), (4, .int v2), (0, .long l0), (2, .int l2)]) cx.1 cx.2.1 dX12_keywordOf_45 rfl hl (by decide) rfl (fun ls hl => ?_)
          refine lv_iinc (v := (l2 + 1)) (lv' := [(2, .int (l2 + 1)), (3, .int (v2 + 1)), (4, .int v2), (0, .long l0)]) cx.1 cx.2.1 dX12_keywordOf_46 hl (k := 3) rfl rfl (by decide) rfl (fun ls hl => ?_)
          refine lv_goto (tgt := 4) cx.1 cx.2.1 dX12_keywordOf_49 (by decide) ?_
          exact ih p3.2 l0 ((l2 + 1)) ((v2 + 1)) q _ _ _ h hw (lv_sub hl [3, 0, 1] rfl) K KR
        · have h := md_ip c36 h
          refine lv_iload_n cx.1 cx.2.1 dX12_keywordOf_39 rfl (lv_at hl 2 rfl) ?_
          exact hp_iret cx hw (md_ret (congrArg some (KR _ (Option.some.inj h).symm))) dX12_keywordOf_40
  obtain ⟨q4, e_q4, h⟩ := md_ob h
  refine L4 n σ0 a0 0 0 q4 _ _ _ e_q4 hw (lv_sub hl [2, 1, 0] rfl) (fun t4 hq4 H locs ls hw hl => ?_) (fun r hr => by subst hr; exact Option.some.inj h)
  subst hq4
  have h := md_inr h
  refine lv_iconst (v := (-1)) cx.1 cx.2.1 dX12_keywordOf_52 (by decide) ?_
  exact hp_iret cx hw (md_ret h) dX12_keywordOf_53
set_option maxHeartbeats 4000000 in
set_option maxRecDepth 100000 in
theorem km_X12_nextName (l : Launch) (D : va_G) (cA : Nat → ClassId) (E : hp_N) (sz : Nat) (ad : Nat → Nat) (hj : md_inj ad) (hE : md_E E) (n : Nat) (σ0 : md_S) (p : (Int32 × md_S)) (h : f_X12_nextName n σ0 = some p) : Met l yX12_nextName (Cond.code yX12_nextName cX12_nextName 1 none :: v_MOD) ({ frames := 6, cells := 0, slots := 0, locals := 156 }) (hp_Pc D vwCl (hp_Tl cA) E sz (md_pic cA ad σ0) [.ref (ad 137)]) (hp_Qv D vwCl (hp_Tl cA) sz (md_pic cA ad σ0) (fun u => u = md_pic cA ad p.2)) 0 0 (hp_A (md_pic cA ad σ0) sz) := by
  refine hp_ofW (cc := cX12_nextName) (maxL := 1) (ret := none) (by decide) rfl (Nat.le_of_ble_eq_true rfl) ?_
  intro pp ee ss mm bb mt cd ls cx hsz hw hl
  have hl : lv_has ls 1 [(0, .ref (ad 137))] := hl
  have J137 : ∀ (σ : md_S) (t0 : Int32) (H : Heap) (locs : List Loc) (ls : Array Slot), f_X12_nextName_J137 n σ t0 = some p → hp_w D vwCl (hp_Tl cA) E (hp_A (md_pic cA ad σ0) sz) ss H locs (md_pic cA ad σ) → lv_has ls 1 [] → W pp l ee ({ frames := 6, cells := 0, slots := 0, locals := 156 }) ss mm [.ref (ad 137)].toArray bb mt cd H locs 0 0 (MQ bb (hp_Qv D vwCl (hp_Tl cA) sz (md_pic cA ad σ0) (fun u => u = md_pic cA ad p.2)) [.ref (ad 137)].toArray ss 0 0 (hp_A (md_pic cA ad σ0) sz)) (F0 mm 137 ls [.int t0, .ref (ad 137)]) := by
    intro σ t0 H locs ls h hw hl
    obtain ⟨σ1, e_σ1, h⟩ := md_ob h
    refine md_pI (k := 8) cx hw hin12c rfl (by decide) rfl (List.mem_cons_of_mem _ mm_15) rfl e_σ1 dX12_nextName_137 (fun H locs hw => ?_)
    exact hp_vret cx hw (md_retv h) dX12_nextName_140
  refine lv_aload_n cx.1 cx.2.1 dX12_nextName_0 rfl (lv_at hl 0 rfl) ?_
  refine lv_lconst (v := 0) cx.1 cx.2.1 dX12_nextName_1 (by decide) ?_
  obtain ⟨σ2, e_σ2, h⟩ := md_ob h
  refine md_pJ (k := 12) cx hw hin12c rfl (by decide) rfl (List.mem_cons_of_mem _ mm_41) rfl e_σ2 dX12_nextName_2 (fun H locs hw => ?_)
  have L5 : ∀ (j : Nat) (σ : md_S) (q : (md_S)) (H : Heap) (locs : List Loc) (ls : Array Slot), f_X12_nextName_L5 n j σ = some q → hp_w D vwCl (hp_Tl cA) E (hp_A (md_pic cA ad σ0) sz) ss H locs (md_pic cA ad σ) → lv_has ls 1 [(0, .ref (ad 137))] → (∀ (H : Heap) (locs : List Loc) (ls : Array Slot), hp_w D vwCl (hp_Tl cA) E (hp_A (md_pic cA ad σ0) sz) ss H locs (md_pic cA ad q) → lv_has ls 1 [(0, .ref (ad 137))] → W pp l ee ({ frames := 6, cells := 0, slots := 0, locals := 156 }) ss mm [.ref (ad 137)].toArray bb mt cd H locs 0 0 (MQ bb (hp_Qv D vwCl (hp_Tl cA) sz (md_pic cA ad σ0) (fun u => u = md_pic cA ad p.2)) [.ref (ad 137)].toArray ss 0 0 (hp_A (md_pic cA ad σ0) sz)) (F0 mm 92 ls [])) → W pp l ee ({ frames := 6, cells := 0, slots := 0, locals := 156 }) ss mm [.ref (ad 137)].toArray bb mt cd H locs 0 0 (MQ bb (hp_Qv D vwCl (hp_Tl cA) sz (md_pic cA ad σ0) (fun u => u = md_pic cA ad p.2)) [.ref (ad 137)].toArray ss 0 0 (hp_A (md_pic cA ad σ0) sz)) (F0 mm 5 ls []) := by
    intro j
    induction j with
    | zero => intro σ q H locs ls h; exact nomatch h
    | succ j ih =>
      intro σ q H locs ls h hw hl K
      have J76 : ∀ (σ : md_S) (t0 : Int64) (H : Heap) (locs : List Loc) (ls : Array Slot), f_X12_nextName_J76 n (f_X12_nextName_L5 n j) σ t0 = some q → hp_w D vwCl (hp_Tl cA) E (hp_A (md_pic cA ad σ0) sz) ss H locs (md_pic cA ad σ) → lv_has ls 1 [(0, .ref (ad 137))] → W pp l ee ({ frames := 6, cells := 0, slots := 0, locals := 156 }) ss mm [.ref (ad 137)].toArray bb mt cd H locs 0 0 (MQ bb (hp_Qv D vwCl (hp_Tl cA) sz (md_pic cA ad σ0) (fun u => u = md_pic cA ad p.2)) [.ref (ad 137)].toArray ss 0 0 (hp_A (md_pic cA ad σ0) sz)) (F0 mm 76 ls [.long t0, .ref (ad 137)]) := by
        intro σ t0 H locs ls h hw hl
        obtain ⟨σ3, e_σ3, h⟩ := md_ob h
        refine md_pJ (k := 12) cx hw hin12c rfl (by decide) rfl (List.mem_cons_of_mem _ mm_41) rfl e_σ3 dX12_nextName_76 (fun H locs hw => ?_)
        refine lv_aload_n cx.1 cx.2.1 dX12_nextName_79 rfl (lv_at hl 0 rfl) ?_
        refine lv_dup cx.1 cx.2.1 dX12_nextName_80 rfl ?_
        refine md_gI (k := 10) cx hw hin12c rfl (by decide) (List.mem_cons_of_mem _ mm_42) dX12_nextName_81 ?_
        refine lv_iconst (v := 1) cx.1 cx.2.1 dX12_nextName_84 (by decide) ?_
        refine lv_iadd cx.1 cx.2.1 dX12_nextName_85 ?_
        obtain ⟨σ4, e_σ4, h⟩ := md_ob h
        refine md_pI (k := 10) cx hw hin12c rfl (by decide) rfl (List.mem_cons_of_mem _ mm_42) rfl e_σ4 dX12_nextName_86 (fun H locs hw => ?_)
        refine lv_goto (tgt := 5) cx.1 cx.2.1 dX12_nextName_89 (by decide) ?_
        exact ih σ4 q _ _ _ h hw (lv_sub hl [0] rfl) K
      have J33 : ∀ (σ : md_S) (H : Heap) (locs : List Loc) (ls : Array Slot), f_X12_nextName_J33 n (f_X12_nextName_L5 n j) σ = some q → hp_w D vwCl (hp_Tl cA) E (hp_A (md_pic cA ad σ0) sz) ss H locs (md_pic cA ad σ) → lv_has ls 1 [(0, .ref (ad 137))] → W pp l ee ({ frames := 6, cells := 0, slots := 0, locals := 156 }) ss mm [.ref (ad 137)].toArray bb mt cd H locs 0 0 (MQ bb (hp_Qv D vwCl (hp_Tl cA) sz (md_pic cA ad σ0) (fun u => u = md_pic cA ad p.2)) [.ref (ad 137)].toArray ss 0 0 (hp_A (md_pic cA ad σ0) sz)) (F0 mm 33 ls []) := by
        intro σ H locs ls h hw hl
        refine lv_aload_n cx.1 cx.2.1 dX12_nextName_33 rfl (lv_at hl 0 rfl) ?_
        refine lv_aload_n cx.1 cx.2.1 dX12_nextName_34 rfl (lv_at hl 0 rfl) ?_
        refine md_gI (k := 10) cx hw hin12c rfl (by decide) (List.mem_cons_of_mem _ mm_42) dX12_nextName_35 ?_
        refine lv_aload_n cx.1 cx.2.1 dX12_nextName_38 rfl (lv_at hl 0 rfl) ?_
        refine md_gI (k := 9) cx hw hin12c rfl (by decide) (List.mem_cons_of_mem _ mm_16) dX12_nextName_39 ?_
        refine lv_isub cx.1 cx.2.1 dX12_nextName_42 ?_
        refine lv_bipush (v := 8) cx.1 cx.2.1 dX12_nextName_43 (by decide) ?_
        refine lv_icmp_ge (tgt := 72) cx.1 cx.2.1 dX12_nextName_45 (by decide) (fun c45 => ?_) (fun c45 => ?_)
        · have h := md_ip c45 h
          refine lv_aload_n cx.1 cx.2.1 dX12_nextName_72 rfl (lv_at hl 0 rfl) ?_
          refine md_gJ (k := 12) cx hw hin12c rfl (by decide) (List.mem_cons_of_mem _ mm_41) dX12_nextName_73 ?_
          exact J76 σ ((mJ σ 12)) _ _ _ h hw (lv_sub hl [0] rfl)
        · have h := md_in c45 h
          refine lv_ldc2 cx.1 cx.2.1 cx.2.2.2.2.1 (cx.2.2.2.2.2.1 _ (List.mem_cons_of_mem _ mm_24)) dX12_nextName_48 ?_
          refine lv_aload_n cx.1 cx.2.1 dX12_nextName_51 rfl (lv_at hl 0 rfl) ?_
          refine md_gJ (k := 12) cx hw hin12c rfl (by decide) (List.mem_cons_of_mem _ mm_41) dX12_nextName_52 ?_
          refine lv_lmul cx.1 cx.2.1 dX12_nextName_55 ?_
          refine lv_aload_n cx.1 cx.2.1 dX12_nextName_56 rfl (lv_at hl 0 rfl) ?_
          refine lv_aload_n cx.1 cx.2.1 dX12_nextName_57 rfl (lv_at hl 0 rfl) ?_
          refine md_gI (k := 10) cx hw hin12c rfl (by decide) (List.mem_cons_of_mem _ mm_42) dX12_nextName_58 ?_
          obtain ⟨p5, e_p5, h⟩ := md_ob h
          refine hp_callVi (As := [.int (mI σ 10)]) (rest := [.long ((37 : Int64) * (mJ σ 12)), .ref (ad 137)]) cx hw (km_X12_at l D cA E _ ad hj hE n σ ((mI σ 10)) p5 e_p5) (cwV 1 cx.2.2.2.2.2.1 (md_giV mm_43 mm_44 mm_45 mm_5 mm_46) rfl rfl rfl hd_X12_at ⟨Nat.le_of_ble_eq_true rfl, Nat.le_of_ble_eq_true rfl⟩) md_at0 rfl rfl hl.1 rfl (Nat.le_of_ble_eq_true rfl) dX12_nextName_61 ⟨Nat.le_refl _, Nat.le_refl _⟩ (fun r u H locs hp hw => ?_)
          obtain ⟨rfl, rfl⟩ := hp
          obtain ⟨p6, e_p6, h⟩ := md_ob h
          refine hp_callSi (As := [.int p5.1]) (rest := [.long ((37 : Int64) * (mJ σ 12)), .ref (ad 137)]) cx hw (km_X12_digitOf l D cA E _ ad hj hE n p5.2 (p5.1) p6 e_p6) (cwS 1 cx.2.2.2.2.2.1 (md_giS mm_29 mm_30 mm_5 mm_31) rfl rfl rfl hd_X12_digitOf ⟨Nat.le_of_ble_eq_true rfl, Nat.le_of_ble_eq_true rfl⟩) rfl hl.1 rfl (Nat.le_of_ble_eq_true rfl) dX12_nextName_64 ⟨Nat.le_refl _, Nat.le_refl _⟩ (fun r u H locs hp hw => ?_)
          obtain ⟨rfl, rfl⟩ := hp
          refine lv_i2l (v := (p6.1.toInt64)) cx.1 cx.2.1 dX12_nextName_67 rfl ?_
          refine lv_ladd cx.1 cx.2.1 dX12_nextName_68 ?_
          refine lv_goto (tgt := 76) cx.1 cx.2.1 dX12_nextName_69 (by decide) ?_
          exact J76 p6.2 ((((37 : Int64) * (mJ σ 12)) + (p6.1.toInt64))) _ _ _ h hw (lv_sub hl [0] rfl)
      refine lv_aload_n cx.1 cx.2.1 dX12_nextName_5 rfl (lv_at hl 0 rfl) ?_
      refine lv_aload_n cx.1 cx.2.1 dX12_nextName_6 rfl (lv_at hl 0 rfl) ?_
      refine md_gI (k := 10) cx hw hin12c rfl (by decide) (List.mem_cons_of_mem _ mm_42) dX12_nextName_7 ?_
      obtain ⟨p7, e_p7, h⟩ := md_ob h
      refine hp_callVi (As := [.int (mI σ 10)]) (rest := []) cx hw (km_X12_at l D cA E _ ad hj hE n σ ((mI σ 10)) p7 e_p7) (cwV 1 cx.2.2.2.2.2.1 (md_giV mm_43 mm_44 mm_45 mm_5 mm_46) rfl rfl rfl hd_X12_at ⟨Nat.le_of_ble_eq_true rfl, Nat.le_of_ble_eq_true rfl⟩) md_at0 rfl rfl hl.1 rfl (Nat.le_of_ble_eq_true rfl) dX12_nextName_10 ⟨Nat.le_refl _, Nat.le_refl _⟩ (fun r u H locs hp hw => ?_)
      obtain ⟨rfl, rfl⟩ := hp
      obtain ⟨p8, e_p8, h⟩ := md_ob h
      refine hp_callSi (As := [.int p7.1]) (rest := []) cx hw (km_X12_isLetter l D cA E _ ad hj hE n p7.2 (p7.1) p8 e_p8) (cwS 1 cx.2.2.2.2.2.1 (md_giS mm_21 mm_22 mm_5 mm_23) rfl rfl rfl hd_X12_isLetter ⟨Nat.le_of_ble_eq_true rfl, Nat.le_of_ble_eq_true rfl⟩) rfl hl.1 rfl (Nat.le_of_ble_eq_true rfl) dX12_nextName_13 ⟨Nat.le_refl _, Nat.le_refl _⟩ (fun r u H locs hp hw => ?_)
      obtain ⟨rfl, rfl⟩ := hp
      refine lv_if_ne (tgt := 33) cx.1 cx.2.1 dX12_nextName_16 (by decide) (fun c16 => ?_) (fun c16 => ?_)
      · have h := md_in c16 h
        exact J33 p8.2 _ _ _ h hw (lv_sub hl [0] rfl)
      · have h := md_ip c16 h
        refine lv_aload_n cx.1 cx.2.1 dX12_nextName_19 rfl (lv_at hl 0 rfl) ?_
        refine lv_aload_n cx.1 cx.2.1 dX12_nextName_20 rfl (lv_at hl 0 rfl) ?_
        refine md_gI (k := 10) cx hw hin12c rfl (by decide) (List.mem_cons_of_mem _ mm_42) dX12_nextName_21 ?_
        obtain ⟨p9, e_p9, h⟩ := md_ob h
        refine hp_callVi (As := [.int (mI p8.2 10)]) (rest := []) cx hw (km_X12_at l D cA E _ ad hj hE n p8.2 ((mI p8.2 10)) p9 e_p9) (cwV 1 cx.2.2.2.2.2.1 (md_giV mm_43 mm_44 mm_45 mm_5 mm_46) rfl rfl rfl hd_X12_at ⟨Nat.le_of_ble_eq_true rfl, Nat.le_of_ble_eq_true rfl⟩) md_at0 rfl rfl hl.1 rfl (Nat.le_of_ble_eq_true rfl) dX12_nextName_24 ⟨Nat.le_refl _, Nat.le_refl _⟩ (fun r u H locs hp hw => ?_)
        obtain ⟨rfl, rfl⟩ := hp
        obtain ⟨p10, e_p10, h⟩ := md_ob h
        refine hp_callSi (As := [.int p9.1]) (rest := []) cx hw (km_X12_isDigit l D cA E _ ad hj hE n p9.2 (p9.1) p10 e_p10) (cwS 1 cx.2.2.2.2.2.1 (md_giS mm_47 mm_48 mm_5 mm_49) rfl rfl rfl hd_X12_isDigit ⟨Nat.le_of_ble_eq_true rfl, Nat.le_of_ble_eq_true rfl⟩) rfl hl.1 rfl (Nat.le_of_ble_eq_true rfl) dX12_nextName_27 ⟨Nat.le_refl _, Nat.le_refl _⟩ (fun r u H locs hp hw => ?_)
        obtain ⟨rfl, rfl⟩ := hp
        refine lv_if_eq (tgt := 92) cx.1 cx.2.1 dX12_nextName_30 (by decide) (fun c30 => ?_) (fun c30 => ?_)
        · have h := md_ip c30 h
          obtain rfl := Option.some.inj h
          exact K _ _ _ hw (lv_sub hl [0] rfl)
        · have h := md_in c30 h
          exact J33 p10.2 _ _ _ h hw (lv_sub hl [0] rfl)
  obtain ⟨q11, e_q11, h⟩ := md_ob h
  refine L5 n σ2 q11 _ _ _ e_q11 hw (lv_sub hl [0] rfl) (fun H locs ls hw hl => ?_)
  refine lv_aload_n cx.1 cx.2.1 dX12_nextName_92 rfl (lv_at hl 0 rfl) ?_
  refine md_gI (k := 10) cx hw hin12c rfl (by decide) (List.mem_cons_of_mem _ mm_42) dX12_nextName_93 ?_
  refine lv_aload_n cx.1 cx.2.1 dX12_nextName_96 rfl (lv_at hl 0 rfl) ?_
  refine md_gI (k := 9) cx hw hin12c rfl (by decide) (List.mem_cons_of_mem _ mm_16) dX12_nextName_97 ?_
  refine lv_isub cx.1 cx.2.1 dX12_nextName_100 ?_
  refine lv_bipush (v := 8) cx.1 cx.2.1 dX12_nextName_101 (by decide) ?_
  refine lv_icmp_le (tgt := 112) cx.1 cx.2.1 dX12_nextName_103 (by decide) (fun c103 => ?_) (fun c103 => ?_)
  · have h := md_ip c103 h
    refine lv_aload_n cx.1 cx.2.1 dX12_nextName_112 rfl (lv_at hl 0 rfl) ?_
    refine lv_aload_n cx.1 cx.2.1 dX12_nextName_113 rfl (lv_at hl 0 rfl) ?_
    refine md_gJ (k := 12) cx hw hin12c rfl (by decide) (List.mem_cons_of_mem _ mm_41) dX12_nextName_114 ?_
    obtain ⟨p12, e_p12, h⟩ := md_ob h
    refine hp_callSi (As := [.long (mJ q11 12)]) (rest := [.ref (ad 137)]) cx hw (km_X12_keywordOf l D cA E _ ad hj hE n q11 ((mJ q11 12)) p12 e_p12) (cwS 1 cx.2.2.2.2.2.1 (md_giS mm_50 mm_51 mm_5 mm_52) rfl rfl rfl hd_X12_keywordOf ⟨Nat.le_of_ble_eq_true rfl, Nat.le_of_ble_eq_true rfl⟩) rfl hl.1 rfl (Nat.le_of_ble_eq_true rfl) dX12_nextName_117 ⟨Nat.le_refl _, Nat.le_refl _⟩ (fun r u H locs hp hw => ?_)
    obtain ⟨rfl, rfl⟩ := hp
    obtain ⟨σ13, e_σ13, h⟩ := md_ob h
    refine md_pI (k := 11) cx hw hin12c rfl (by decide) rfl (List.mem_cons_of_mem _ mm_53) rfl e_σ13 dX12_nextName_120 (fun H locs hw => ?_)
    refine lv_aload_n cx.1 cx.2.1 dX12_nextName_123 rfl (lv_at hl 0 rfl) ?_
    refine lv_aload_n cx.1 cx.2.1 dX12_nextName_124 rfl (lv_at hl 0 rfl) ?_
    refine md_gI (k := 11) cx hw hin12c rfl (by decide) (List.mem_cons_of_mem _ mm_53) dX12_nextName_125 ?_
    refine lv_iconst (v := (-1)) cx.1 cx.2.1 dX12_nextName_128 (by decide) ?_
    refine lv_icmp_ne (tgt := 136) cx.1 cx.2.1 dX12_nextName_129 (by decide) (fun c129 => ?_) (fun c129 => ?_)
    · have h := md_in c129 h
      refine lv_iconst (v := 2) cx.1 cx.2.1 dX12_nextName_136 (by decide) ?_
      exact J137 σ13 2 _ _ _ h hw (lv_sub hl [] rfl)
    · have h := md_ip c129 h
      refine lv_iconst (v := 1) cx.1 cx.2.1 dX12_nextName_132 (by decide) ?_
      refine lv_goto (tgt := 137) cx.1 cx.2.1 dX12_nextName_133 (by decide) ?_
      exact J137 σ13 1 _ _ _ h hw (lv_sub hl [] rfl)
  · have h := md_in c103 h
    refine lv_aload_n cx.1 cx.2.1 dX12_nextName_106 rfl (lv_at hl 0 rfl) ?_
    refine lv_iconst (v := 1) cx.1 cx.2.1 dX12_nextName_107 (by decide) ?_
    obtain ⟨p14, e_p14, h⟩ := md_ob h
    refine hp_callVv (As := [.int 1]) (rest := []) cx hw (km_X12_fails l D cA E _ ad hj hE n q11 (1 : Int32) p14 e_p14) (cwV 1 cx.2.2.2.2.2.1 (md_giV mm_54 mm_55 mm_56 mm_5 mm_57) rfl rfl rfl hd_X12_fails ⟨Nat.le_of_ble_eq_true rfl, Nat.le_of_ble_eq_true rfl⟩) md_at0 rfl rfl hl.1 rfl (Nat.le_of_ble_eq_true rfl) dX12_nextName_108 ⟨Nat.le_refl _, Nat.le_refl _⟩ (fun u H locs hp hw => ?_)
    obtain rfl := hp
    exact hp_vret cx hw (md_retv h) dX12_nextName_111
set_option maxHeartbeats 4000000 in
set_option maxRecDepth 100000 in
theorem km_X12_nextNumber (l : Launch) (D : va_G) (cA : Nat → ClassId) (E : hp_N) (sz : Nat) (ad : Nat → Nat) (hj : md_inj ad) (hE : md_E E) (n : Nat) (σ0 : md_S) (p : (Int32 × md_S)) (h : f_X12_nextNumber n σ0 = some p) : Met l yX12_nextNumber (Cond.code yX12_nextNumber cX12_nextNumber 3 none :: v_MOD) ({ frames := 2, cells := 0, slots := 0, locals := 45 }) (hp_Pc D vwCl (hp_Tl cA) E sz (md_pic cA ad σ0) [.ref (ad 137)]) (hp_Qv D vwCl (hp_Tl cA) sz (md_pic cA ad σ0) (fun u => u = md_pic cA ad p.2)) 0 0 (hp_A (md_pic cA ad σ0) sz) := by
  refine hp_ofW (cc := cX12_nextNumber) (maxL := 3) (ret := none) (by decide) rfl (Nat.le_of_ble_eq_true rfl) ?_
  intro pp ee ss mm bb mt cd ls cx hsz hw hl
  have hl : lv_has ls 3 [(0, .ref (ad 137))] := hl
  refine lv_lconst (v := 0) cx.1 cx.2.1 dX12_nextNumber_0 (by decide) ?_
  refine lv_lstore_n (lv' := [(1, .long 0), (0, .ref (ad 137))]) cx.1 cx.2.1 dX12_nextNumber_1 rfl hl (by decide) rfl (fun ls hl => ?_)
  have L2 : ∀ (j : Nat) (σ : md_S) (l1 : Int64) (q : (md_S × Int64)) (H : Heap) (locs : List Loc) (ls : Array Slot), f_X12_nextNumber_L2 n j σ l1 = some q → hp_w D vwCl (hp_Tl cA) E (hp_A (md_pic cA ad σ0) sz) ss H locs (md_pic cA ad σ) → lv_has ls 3 [(0, .ref (ad 137)), (1, .long l1)] → (∀ (H : Heap) (locs : List Loc) (ls : Array Slot), hp_w D vwCl (hp_Tl cA) E (hp_A (md_pic cA ad σ0) sz) ss H locs (md_pic cA ad q.1) → lv_has ls 3 [(0, .ref (ad 137)), (1, .long q.2)] → W pp l ee ({ frames := 2, cells := 0, slots := 0, locals := 45 }) ss mm [.ref (ad 137)].toArray bb mt cd H locs 0 0 (MQ bb (hp_Qv D vwCl (hp_Tl cA) sz (md_pic cA ad σ0) (fun u => u = md_pic cA ad p.2)) [.ref (ad 137)].toArray ss 0 0 (hp_A (md_pic cA ad σ0) sz)) (F0 mm 61 ls [])) → W pp l ee ({ frames := 2, cells := 0, slots := 0, locals := 45 }) ss mm [.ref (ad 137)].toArray bb mt cd H locs 0 0 (MQ bb (hp_Qv D vwCl (hp_Tl cA) sz (md_pic cA ad σ0) (fun u => u = md_pic cA ad p.2)) [.ref (ad 137)].toArray ss 0 0 (hp_A (md_pic cA ad σ0) sz)) (F0 mm 2 ls []) := by
    intro j
    induction j with
    | zero => intro σ l1 q H locs ls h; exact nomatch h
    | succ j ih =>
      intro σ l1 q H locs ls h hw hl K
      have J47 : ∀ (σ : md_S) (t0 : Int64) (H : Heap) (locs : List Loc) (ls : Array Slot), f_X12_nextNumber_J47 n (f_X12_nextNumber_L2 n j) σ t0 = some q → hp_w D vwCl (hp_Tl cA) E (hp_A (md_pic cA ad σ0) sz) ss H locs (md_pic cA ad σ) → lv_has ls 3 [(0, .ref (ad 137))] → W pp l ee ({ frames := 2, cells := 0, slots := 0, locals := 45 }) ss mm [.ref (ad 137)].toArray bb mt cd H locs 0 0 (MQ bb (hp_Qv D vwCl (hp_Tl cA) sz (md_pic cA ad σ0) (fun u => u = md_pic cA ad p.2)) [.ref (ad 137)].toArray ss 0 0 (hp_A (md_pic cA ad σ0) sz)) (F0 mm 47 ls [.long t0]) := by
        intro σ t0 H locs ls h hw hl
        refine lv_lstore_n (lv' := [(1, .long t0), (0, .ref (ad 137))]) cx.1 cx.2.1 dX12_nextNumber_47 rfl hl (by decide) rfl (fun ls hl => ?_)
        refine lv_aload_n cx.1 cx.2.1 dX12_nextNumber_48 rfl (lv_at hl 1 rfl) ?_
        refine lv_dup cx.1 cx.2.1 dX12_nextNumber_49 rfl ?_
        refine md_gI (k := 10) cx hw hin12c rfl (by decide) (List.mem_cons_of_mem _ mm_42) dX12_nextNumber_50 ?_
        refine lv_iconst (v := 1) cx.1 cx.2.1 dX12_nextNumber_53 (by decide) ?_
        refine lv_iadd cx.1 cx.2.1 dX12_nextNumber_54 ?_
        obtain ⟨σ1, e_σ1, h⟩ := md_ob h
        refine md_pI (k := 10) cx hw hin12c rfl (by decide) rfl (List.mem_cons_of_mem _ mm_42) rfl e_σ1 dX12_nextNumber_55 (fun H locs hw => ?_)
        refine lv_goto (tgt := 2) cx.1 cx.2.1 dX12_nextNumber_58 (by decide) ?_
        exact ih σ1 t0 q _ _ _ h hw (lv_sub hl [1, 0] rfl) K
      refine lv_aload_n cx.1 cx.2.1 dX12_nextNumber_2 rfl (lv_at hl 0 rfl) ?_
      refine lv_aload_n cx.1 cx.2.1 dX12_nextNumber_3 rfl (lv_at hl 0 rfl) ?_
      refine md_gI (k := 10) cx hw hin12c rfl (by decide) (List.mem_cons_of_mem _ mm_42) dX12_nextNumber_4 ?_
      obtain ⟨p2, e_p2, h⟩ := md_ob h
      refine hp_callVi (As := [.int (mI σ 10)]) (rest := []) cx hw (km_X12_at l D cA E _ ad hj hE n σ ((mI σ 10)) p2 e_p2) (cwV 1 cx.2.2.2.2.2.1 (md_giV mm_43 mm_44 mm_45 mm_5 mm_46) rfl rfl rfl hd_X12_at ⟨Nat.le_of_ble_eq_true rfl, Nat.le_of_ble_eq_true rfl⟩) md_at0 rfl rfl hl.1 rfl (Nat.le_of_ble_eq_true rfl) dX12_nextNumber_7 ⟨Nat.le_refl _, Nat.le_refl _⟩ (fun r u H locs hp hw => ?_)
      obtain ⟨rfl, rfl⟩ := hp
      obtain ⟨p3, e_p3, h⟩ := md_ob h
      refine hp_callSi (As := [.int p2.1]) (rest := []) cx hw (km_X12_isDigit l D cA E _ ad hj hE n p2.2 (p2.1) p3 e_p3) (cwS 1 cx.2.2.2.2.2.1 (md_giS mm_47 mm_48 mm_5 mm_49) rfl rfl rfl hd_X12_isDigit ⟨Nat.le_of_ble_eq_true rfl, Nat.le_of_ble_eq_true rfl⟩) rfl hl.1 rfl (Nat.le_of_ble_eq_true rfl) dX12_nextNumber_10 ⟨Nat.le_refl _, Nat.le_refl _⟩ (fun r u H locs hp hw => ?_)
      obtain ⟨rfl, rfl⟩ := hp
      refine lv_if_eq (tgt := 61) cx.1 cx.2.1 dX12_nextNumber_13 (by decide) (fun c13 => ?_) (fun c13 => ?_)
      · have h := md_ip c13 h
        obtain rfl := Option.some.inj h
        exact K _ _ _ hw (lv_sub hl [0, 1] rfl)
      · have h := md_in c13 h
        refine lv_lload_n cx.1 cx.2.1 dX12_nextNumber_16 rfl (lv_at hl 1 rfl) ?_
        refine lv_ldc2 cx.1 cx.2.1 cx.2.2.2.2.1 (cx.2.2.2.2.2.1 _ (List.mem_cons_of_mem _ mm_58)) dX12_nextNumber_17 ?_
        refine W.lcmp cx.1 cx.2.1 dX12_nextNumber_20 ?_
        refine lv_if_le (tgt := 28) cx.1 cx.2.1 dX12_nextNumber_21 (by decide) (fun c21 => ?_) (fun c21 => ?_)
        · have h := md_ip c21 h
          refine lv_ldc2 cx.1 cx.2.1 cx.2.2.2.2.1 (cx.2.2.2.2.2.1 _ (List.mem_cons_of_mem _ mm_59)) dX12_nextNumber_28 ?_
          refine lv_lload_n cx.1 cx.2.1 dX12_nextNumber_31 rfl (lv_at hl 1 rfl) ?_
          refine lv_lmul cx.1 cx.2.1 dX12_nextNumber_32 ?_
          refine lv_aload_n cx.1 cx.2.1 dX12_nextNumber_33 rfl (lv_at hl 0 rfl) ?_
          refine lv_aload_n cx.1 cx.2.1 dX12_nextNumber_34 rfl (lv_at hl 0 rfl) ?_
          refine md_gI (k := 10) cx hw hin12c rfl (by decide) (List.mem_cons_of_mem _ mm_42) dX12_nextNumber_35 ?_
          obtain ⟨p4, e_p4, h⟩ := md_ob h
          refine hp_callVi (As := [.int (mI p3.2 10)]) (rest := [.long ((10 : Int64) * l1)]) cx hw (km_X12_at l D cA E _ ad hj hE n p3.2 ((mI p3.2 10)) p4 e_p4) (cwV 1 cx.2.2.2.2.2.1 (md_giV mm_43 mm_44 mm_45 mm_5 mm_46) rfl rfl rfl hd_X12_at ⟨Nat.le_of_ble_eq_true rfl, Nat.le_of_ble_eq_true rfl⟩) md_at0 rfl rfl hl.1 rfl (Nat.le_of_ble_eq_true rfl) dX12_nextNumber_38 ⟨Nat.le_refl _, Nat.le_refl _⟩ (fun r u H locs hp hw => ?_)
          obtain ⟨rfl, rfl⟩ := hp
          refine lv_i2l (v := (p4.1.toInt64)) cx.1 cx.2.1 dX12_nextNumber_41 rfl ?_
          refine lv_ladd cx.1 cx.2.1 dX12_nextNumber_42 ?_
          refine lv_ldc2 cx.1 cx.2.1 cx.2.2.2.2.1 (cx.2.2.2.2.2.1 _ (List.mem_cons_of_mem _ mm_11)) dX12_nextNumber_43 ?_
          refine lv_lsub cx.1 cx.2.1 dX12_nextNumber_46 ?_
          exact J47 p4.2 (((((10 : Int64) * l1) + (p4.1.toInt64)) - 48)) _ _ _ h hw (lv_sub hl [0] rfl)
        · have h := md_in c21 h
          refine lv_lload_n cx.1 cx.2.1 dX12_nextNumber_24 rfl (lv_at hl 1 rfl) ?_
          refine lv_goto (tgt := 47) cx.1 cx.2.1 dX12_nextNumber_25 (by decide) ?_
          exact J47 p3.2 l1 _ _ _ h hw (lv_sub hl [0] rfl)
  obtain ⟨q5, e_q5, h⟩ := md_ob h
  refine L2 n σ0 0 q5 _ _ _ e_q5 hw (lv_sub hl [1, 0] rfl) (fun H locs ls hw hl => ?_)
  refine lv_lload_n cx.1 cx.2.1 dX12_nextNumber_61 rfl (lv_at hl 1 rfl) ?_
  refine lv_ldc2 cx.1 cx.2.1 cx.2.2.2.2.1 (cx.2.2.2.2.2.1 _ (List.mem_cons_of_mem _ mm_58)) dX12_nextNumber_62 ?_
  refine W.lcmp cx.1 cx.2.1 dX12_nextNumber_65 ?_
  refine lv_if_le (tgt := 75) cx.1 cx.2.1 dX12_nextNumber_66 (by decide) (fun c66 => ?_) (fun c66 => ?_)
  · have h := md_ip c66 h
    refine lv_aload_n cx.1 cx.2.1 dX12_nextNumber_75 rfl (lv_at hl 0 rfl) ?_
    refine lv_lload_n cx.1 cx.2.1 dX12_nextNumber_76 rfl (lv_at hl 1 rfl) ?_
    refine lv_l2i (v := (q5.2.toInt32)) cx.1 cx.2.1 dX12_nextNumber_77 rfl ?_
    obtain ⟨σ6, e_σ6, h⟩ := md_ob h
    refine md_pI (k := 11) cx hw hin12c rfl (by decide) rfl (List.mem_cons_of_mem _ mm_53) rfl e_σ6 dX12_nextNumber_78 (fun H locs hw => ?_)
    refine lv_aload_n cx.1 cx.2.1 dX12_nextNumber_81 rfl (lv_at hl 0 rfl) ?_
    refine lv_iconst (v := 3) cx.1 cx.2.1 dX12_nextNumber_82 (by decide) ?_
    obtain ⟨σ7, e_σ7, h⟩ := md_ob h
    refine md_pI (k := 8) cx hw hin12c rfl (by decide) rfl (List.mem_cons_of_mem _ mm_15) rfl e_σ7 dX12_nextNumber_83 (fun H locs hw => ?_)
    exact hp_vret cx hw (md_retv h) dX12_nextNumber_86
  · have h := md_in c66 h
    refine lv_aload_n cx.1 cx.2.1 dX12_nextNumber_69 rfl (lv_at hl 0 rfl) ?_
    refine lv_iconst (v := 1) cx.1 cx.2.1 dX12_nextNumber_70 (by decide) ?_
    obtain ⟨p8, e_p8, h⟩ := md_ob h
    refine hp_callVv (As := [.int 1]) (rest := []) cx hw (km_X12_fails l D cA E _ ad hj hE n q5.1 (1 : Int32) p8 e_p8) (cwV 1 cx.2.2.2.2.2.1 (md_giV mm_54 mm_55 mm_56 mm_5 mm_57) rfl rfl rfl hd_X12_fails ⟨Nat.le_of_ble_eq_true rfl, Nat.le_of_ble_eq_true rfl⟩) md_at0 rfl rfl hl.1 rfl (Nat.le_of_ble_eq_true rfl) dX12_nextNumber_71 ⟨Nat.le_refl _, Nat.le_refl _⟩ (fun u H locs hp hw => ?_)
    obtain rfl := hp
    exact hp_vret cx hw (md_retv h) dX12_nextNumber_74
set_option maxHeartbeats 4000000 in
set_option maxRecDepth 100000 in
theorem km_X12_nextPattern (l : Launch) (D : va_G) (cA : Nat → ClassId) (E : hp_N) (sz : Nat) (ad : Nat → Nat) (hj : md_inj ad) (hE : md_E E) (n : Nat) (σ0 : md_S) (p : (Int32 × md_S)) (h : f_X12_nextPattern n σ0 = some p) : Met l yX12_nextPattern (Cond.code yX12_nextPattern cX12_nextPattern 8 none :: v_MOD) ({ frames := 3, cells := 0, slots := 0, locals := 65 }) (hp_Pc D vwCl (hp_Tl cA) E sz (md_pic cA ad σ0) [.ref (ad 137)]) (hp_Qv D vwCl (hp_Tl cA) sz (md_pic cA ad σ0) (fun u => u = md_pic cA ad p.2)) 0 0 (hp_A (md_pic cA ad σ0) sz) := by
  refine hp_ofW (cc := cX12_nextPattern) (maxL := 8) (ret := none) (by decide) rfl (Nat.le_of_ble_eq_true rfl) ?_
  intro pp ee ss mm bb mt cd ls cx hsz hw hl
  have hl : lv_has ls 8 [(0, .ref (ad 137))] := hl
  have J309 : ∀ (σ : md_S) (H : Heap) (locs : List Loc) (ls : Array Slot), f_X12_nextPattern_J309 n σ = some p → hp_w D vwCl (hp_Tl cA) E (hp_A (md_pic cA ad σ0) sz) ss H locs (md_pic cA ad σ) → lv_has ls 8 [(0, .ref (ad 137))] → W pp l ee ({ frames := 3, cells := 0, slots := 0, locals := 65 }) ss mm [.ref (ad 137)].toArray bb mt cd H locs 0 0 (MQ bb (hp_Qv D vwCl (hp_Tl cA) sz (md_pic cA ad σ0) (fun u => u = md_pic cA ad p.2)) [.ref (ad 137)].toArray ss 0 0 (hp_A (md_pic cA ad σ0) sz)) (F0 mm 309 ls []) := by
    intro σ H locs ls h hw hl
    refine lv_aload_n cx.1 cx.2.1 dX12_nextPattern_309 rfl (lv_at hl 0 rfl) ?_
    refine lv_iconst (v := 4) cx.1 cx.2.1 dX12_nextPattern_310 (by decide) ?_
    obtain ⟨σ1, e_σ1, h⟩ := md_ob h
    refine md_pI (k := 8) cx hw hin12c rfl (by decide) rfl (List.mem_cons_of_mem _ mm_15) rfl e_σ1 dX12_nextPattern_311 (fun H locs hw => ?_)
    exact hp_vret cx hw (md_retv h) dX12_nextPattern_314
  have J303 : ∀ (σ : md_S) (H : Heap) (locs : List Loc) (ls : Array Slot), f_X12_nextPattern_J303 n σ = some p → hp_w D vwCl (hp_Tl cA) E (hp_A (md_pic cA ad σ0) sz) ss H locs (md_pic cA ad σ) → lv_has ls 8 [(0, .ref (ad 137))] → W pp l ee ({ frames := 3, cells := 0, slots := 0, locals := 65 }) ss mm [.ref (ad 137)].toArray bb mt cd H locs 0 0 (MQ bb (hp_Qv D vwCl (hp_Tl cA) sz (md_pic cA ad σ0) (fun u => u = md_pic cA ad p.2)) [.ref (ad 137)].toArray ss 0 0 (hp_A (md_pic cA ad σ0) sz)) (F0 mm 303 ls []) := by
    intro σ H locs ls h hw hl
    refine lv_aload_n cx.1 cx.2.1 dX12_nextPattern_303 rfl (lv_at hl 0 rfl) ?_
    refine lv_iconst (v := 1) cx.1 cx.2.1 dX12_nextPattern_304 (by decide) ?_
    obtain ⟨p2, e_p2, h⟩ := md_ob h
    refine hp_callVv (As := [.int 1]) (rest := []) cx hw (km_X12_fails l D cA E _ ad hj hE n σ (1 : Int32) p2 e_p2) (cwV 1 cx.2.2.2.2.2.1 (md_giV mm_54 mm_55 mm_56 mm_5 mm_57) rfl rfl rfl hd_X12_fails ⟨Nat.le_of_ble_eq_true rfl, Nat.le_of_ble_eq_true rfl⟩) md_at0 rfl rfl hl.1 rfl (Nat.le_of_ble_eq_true rfl) dX12_nextPattern_305 ⟨Nat.le_refl _, Nat.le_refl _⟩ (fun u H locs hp hw => ?_)
    obtain rfl := hp
    exact hp_vret cx hw (md_retv h) dX12_nextPattern_308
  refine lv_aload_n cx.1 cx.2.1 dX12_nextPattern_0 rfl (lv_at hl 0 rfl) ?_
  refine lv_iconst (v := 0) cx.1 cx.2.1 dX12_nextPattern_1 (by decide) ?_
  obtain ⟨σ3, e_σ3, h⟩ := md_ob h
  refine md_pI (k := 14) cx hw hin12c rfl (by decide) rfl (List.mem_cons_of_mem _ mm_60) rfl e_σ3 dX12_nextPattern_2 (fun H locs hw => ?_)
  refine lv_aload_n cx.1 cx.2.1 dX12_nextPattern_5 rfl (lv_at hl 0 rfl) ?_
  refine lv_iconst (v := 0) cx.1 cx.2.1 dX12_nextPattern_6 (by decide) ?_
  obtain ⟨σ4, e_σ4, h⟩ := md_ob h
  refine md_pI (k := 15) cx hw hin12c rfl (by decide) rfl (List.mem_cons_of_mem _ mm_61) rfl e_σ4 dX12_nextPattern_7 (fun H locs hw => ?_)
  refine lv_iconst (v := 1) cx.1 cx.2.1 dX12_nextPattern_10 (by decide) ?_
  refine lv_istore_n (lv' := [(1, .int 1), (0, .ref (ad 137))]) cx.1 cx.2.1 dX12_nextPattern_11 rfl hl (by decide) rfl (fun ls hl => ?_)
  refine lv_iconst (v := 1) cx.1 cx.2.1 dX12_nextPattern_12 (by decide) ?_
  refine lv_istore_n (lv' := [(2, .int 1), (1, .int 1), (0, .ref (ad 137))]) cx.1 cx.2.1 dX12_nextPattern_13 rfl hl (by decide) rfl (fun ls hl => ?_)
  have L14 : ∀ (j : Nat) (σ : md_S) (l1 : Int32) (l2 : Int32) (q : (md_S × Int32 × Int32)) (H : Heap) (locs : List Loc) (ls : Array Slot), f_X12_nextPattern_L14 n j σ l1 l2 = some q → hp_w D vwCl (hp_Tl cA) E (hp_A (md_pic cA ad σ0) sz) ss H locs (md_pic cA ad σ) → lv_has ls 8 [(0, .ref (ad 137)), (1, .int l1), (2, .int l2)] → (∀ (H : Heap) (locs : List Loc) (ls : Array Slot), hp_w D vwCl (hp_Tl cA) E (hp_A (md_pic cA ad σ0) sz) ss H locs (md_pic cA ad q.1) → lv_has ls 8 [(0, .ref (ad 137)), (1, .int q.2.1)] → W pp l ee ({ frames := 3, cells := 0, slots := 0, locals := 65 }) ss mm [.ref (ad 137)].toArray bb mt cd H locs 0 0 (MQ bb (hp_Qv D vwCl (hp_Tl cA) sz (md_pic cA ad σ0) (fun u => u = md_pic cA ad p.2)) [.ref (ad 137)].toArray ss 0 0 (hp_A (md_pic cA ad σ0) sz)) (F0 mm 285 ls [])) → W pp l ee ({ frames := 3, cells := 0, slots := 0, locals := 65 }) ss mm [.ref (ad 137)].toArray bb mt cd H locs 0 0 (MQ bb (hp_Qv D vwCl (hp_Tl cA) sz (md_pic cA ad σ0) (fun u => u = md_pic cA ad p.2)) [.ref (ad 137)].toArray ss 0 0 (hp_A (md_pic cA ad σ0) sz)) (F0 mm 14 ls []) := by
    intro j
    induction j with
    | zero => intro σ l1 l2 q H locs ls h; exact nomatch h
    | succ j ih =>
      intro σ l1 l2 q H locs ls h hw hl K
      have J281 : ∀ (σ : md_S) (l1 : Int32) (t0 : Int32) (H : Heap) (locs : List Loc) (ls : Array Slot), f_X12_nextPattern_J281 n (f_X12_nextPattern_L14 n j) σ l1 t0 = some q → hp_w D vwCl (hp_Tl cA) E (hp_A (md_pic cA ad σ0) sz) ss H locs (md_pic cA ad σ) → lv_has ls 8 [(0, .ref (ad 137)), (1, .int l1)] → W pp l ee ({ frames := 3, cells := 0, slots := 0, locals := 65 }) ss mm [.ref (ad 137)].toArray bb mt cd H locs 0 0 (MQ bb (hp_Qv D vwCl (hp_Tl cA) sz (md_pic cA ad σ0) (fun u => u = md_pic cA ad p.2)) [.ref (ad 137)].toArray ss 0 0 (hp_A (md_pic cA ad σ0) sz)) (F0 mm 281 ls [.int t0]) := by
        intro σ l1 t0 H locs ls h hw hl
        refine lv_istore_n (lv' := [(2, .int t0), (0, .ref (ad 137)), (1, .int l1)]) cx.1 cx.2.1 dX12_nextPattern_281 rfl hl (by decide) rfl (fun ls hl => ?_)
        refine lv_goto (tgt := 14) cx.1 cx.2.1 dX12_nextPattern_282 (by decide) ?_
        exact ih σ l1 t0 q _ _ _ h hw (lv_sub hl [1, 2, 0] rfl) K
      have J280 : ∀ (σ : md_S) (l1 : Int32) (H : Heap) (locs : List Loc) (ls : Array Slot), f_X12_nextPattern_J280 n (f_X12_nextPattern_L14 n j) σ l1 = some q → hp_w D vwCl (hp_Tl cA) E (hp_A (md_pic cA ad σ0) sz) ss H locs (md_pic cA ad σ) → lv_has ls 8 [(0, .ref (ad 137)), (1, .int l1)] → W pp l ee ({ frames := 3, cells := 0, slots := 0, locals := 65 }) ss mm [.ref (ad 137)].toArray bb mt cd H locs 0 0 (MQ bb (hp_Qv D vwCl (hp_Tl cA) sz (md_pic cA ad σ0) (fun u => u = md_pic cA ad p.2)) [.ref (ad 137)].toArray ss 0 0 (hp_A (md_pic cA ad σ0) sz)) (F0 mm 280 ls []) := by
        intro σ l1 H locs ls h hw hl
        refine lv_iconst (v := 0) cx.1 cx.2.1 dX12_nextPattern_280 (by decide) ?_
        exact J281 σ l1 0 _ _ _ h hw (lv_sub hl [0, 1] rfl)
      have J258 : ∀ (σ : md_S) (l1 : Int32) (l4 : Int32) (H : Heap) (locs : List Loc) (ls : Array Slot), f_X12_nextPattern_J258 n (f_X12_nextPattern_L14 n j) σ l1 l4 = some q → hp_w D vwCl (hp_Tl cA) E (hp_A (md_pic cA ad σ0) sz) ss H locs (md_pic cA ad σ) → lv_has ls 8 [(0, .ref (ad 137)), (1, .int l1), (4, .int l4)] → W pp l ee ({ frames := 3, cells := 0, slots := 0, locals := 65 }) ss mm [.ref (ad 137)].toArray bb mt cd H locs 0 0 (MQ bb (hp_Qv D vwCl (hp_Tl cA) sz (md_pic cA ad σ0) (fun u => u = md_pic cA ad p.2)) [.ref (ad 137)].toArray ss 0 0 (hp_A (md_pic cA ad σ0) sz)) (F0 mm 258 ls []) := by
        intro σ l1 l4 H locs ls h hw hl
        refine lv_iload cx.1 cx.2.1 dX12_nextPattern_258 (lv_at hl 2 rfl) ?_
        refine lv_if_eq (tgt := 280) cx.1 cx.2.1 dX12_nextPattern_260 (by decide) (fun c260 => ?_) (fun c260 => ?_)
        · have h := md_ip c260 h
          exact J280 σ l1 _ _ _ h hw (lv_sub hl [0, 1] rfl)
        · have h := md_in c260 h
          refine lv_aload_n cx.1 cx.2.1 dX12_nextPattern_263 rfl (lv_at hl 0 rfl) ?_
          refine lv_aload_n cx.1 cx.2.1 dX12_nextPattern_264 rfl (lv_at hl 0 rfl) ?_
          refine md_gI (k := 10) cx hw hin12c rfl (by decide) (List.mem_cons_of_mem _ mm_42) dX12_nextPattern_265 ?_
          obtain ⟨p5, e_p5, h⟩ := md_ob h
          refine hp_callVi (As := [.int (mI σ 10)]) (rest := []) cx hw (km_X12_at l D cA E _ ad hj hE n σ ((mI σ 10)) p5 e_p5) (cwV 1 cx.2.2.2.2.2.1 (md_giV mm_43 mm_44 mm_45 mm_5 mm_46) rfl rfl rfl hd_X12_at ⟨Nat.le_of_ble_eq_true rfl, Nat.le_of_ble_eq_true rfl⟩) md_at0 rfl rfl hl.1 rfl (Nat.le_of_ble_eq_true rfl) dX12_nextPattern_268 ⟨Nat.le_refl _, Nat.le_refl _⟩ (fun r u H locs hp hw => ?_)
          obtain ⟨rfl, rfl⟩ := hp
          refine lv_bipush (v := 47) cx.1 cx.2.1 dX12_nextPattern_271 (by decide) ?_
          refine lv_icmp_ne (tgt := 280) cx.1 cx.2.1 dX12_nextPattern_273 (by decide) (fun c273 => ?_) (fun c273 => ?_)
          · have h := md_in c273 h
            exact J280 p5.2 l1 _ _ _ h hw (lv_sub hl [0, 1] rfl)
          · have h := md_ip c273 h
            refine lv_iconst (v := 1) cx.1 cx.2.1 dX12_nextPattern_276 (by decide) ?_
            refine lv_goto (tgt := 281) cx.1 cx.2.1 dX12_nextPattern_277 (by decide) ?_
            exact J281 p5.2 l1 1 _ _ _ h hw (lv_sub hl [0, 1] rfl)
      have J245 : ∀ (σ : md_S) (l1 : Int32) (l4 : Int32) (t0 : Int32) (H : Heap) (locs : List Loc) (ls : Array Slot), f_X12_nextPattern_J245 n (f_X12_nextPattern_L14 n j) σ l1 l4 t0 = some q → hp_w D vwCl (hp_Tl cA) E (hp_A (md_pic cA ad σ0) sz) ss H locs (md_pic cA ad σ) → lv_has ls 8 [(0, .ref (ad 137)), (1, .int l1), (4, .int l4)] → W pp l ee ({ frames := 3, cells := 0, slots := 0, locals := 65 }) ss mm [.ref (ad 137)].toArray bb mt cd H locs 0 0 (MQ bb (hp_Qv D vwCl (hp_Tl cA) sz (md_pic cA ad σ0) (fun u => u = md_pic cA ad p.2)) [.ref (ad 137)].toArray ss 0 0 (hp_A (md_pic cA ad σ0) sz)) (F0 mm 245 ls [.int t0, .ref (ad 137)]) := by
        intro σ l1 l4 t0 H locs ls h hw hl
        obtain ⟨σ6, e_σ6, h⟩ := md_ob h
        refine md_pI (k := 15) cx hw hin12c rfl (by decide) rfl (List.mem_cons_of_mem _ mm_61) rfl e_σ6 dX12_nextPattern_245 (fun H locs hw => ?_)
        refine lv_aload_n cx.1 cx.2.1 dX12_nextPattern_248 rfl (lv_at hl 0 rfl) ?_
        refine lv_dup cx.1 cx.2.1 dX12_nextPattern_249 rfl ?_
        refine md_gI (k := 10) cx hw hin12c rfl (by decide) (List.mem_cons_of_mem _ mm_42) dX12_nextPattern_250 ?_
        refine lv_iconst (v := 2) cx.1 cx.2.1 dX12_nextPattern_253 (by decide) ?_
        refine lv_iadd cx.1 cx.2.1 dX12_nextPattern_254 ?_
        obtain ⟨σ7, e_σ7, h⟩ := md_ob h
        refine md_pI (k := 10) cx hw hin12c rfl (by decide) rfl (List.mem_cons_of_mem _ mm_42) rfl e_σ7 dX12_nextPattern_255 (fun H locs hw => ?_)
        exact J258 σ7 l1 l4 _ _ _ h hw (lv_sub hl [0, 1, 2] rfl)
      have J233 : ∀ (σ : md_S) (l1 : Int32) (l3 : Int32) (l4 : Int32) (H : Heap) (locs : List Loc) (ls : Array Slot), f_X12_nextPattern_J233 n (f_X12_nextPattern_L14 n j) σ l1 l3 l4 = some q → hp_w D vwCl (hp_Tl cA) E (hp_A (md_pic cA ad σ0) sz) ss H locs (md_pic cA ad σ) → lv_has ls 8 [(0, .ref (ad 137)), (1, .int l1), (3, .int l3), (4, .int l4)] → W pp l ee ({ frames := 3, cells := 0, slots := 0, locals := 65 }) ss mm [.ref (ad 137)].toArray bb mt cd H locs 0 0 (MQ bb (hp_Qv D vwCl (hp_Tl cA) sz (md_pic cA ad σ0) (fun u => u = md_pic cA ad p.2)) [.ref (ad 137)].toArray ss 0 0 (hp_A (md_pic cA ad σ0) sz)) (F0 mm 233 ls []) := by
        intro σ l1 l3 l4 H locs ls h hw hl
        refine lv_aload_n cx.1 cx.2.1 dX12_nextPattern_233 rfl (lv_at hl 0 rfl) ?_
        refine lv_iload_n cx.1 cx.2.1 dX12_nextPattern_234 rfl (lv_at hl 2 rfl) ?_
        refine lv_bipush (v := 42) cx.1 cx.2.1 dX12_nextPattern_235 (by decide) ?_
        refine lv_icmp_ne (tgt := 244) cx.1 cx.2.1 dX12_nextPattern_237 (by decide) (fun c237 => ?_) (fun c237 => ?_)
        · have h := md_in c237 h
          refine lv_iconst (v := 2) cx.1 cx.2.1 dX12_nextPattern_244 (by decide) ?_
          exact J245 σ l1 l4 2 _ _ _ h hw (lv_sub hl [0, 1, 3] rfl)
        · have h := md_ip c237 h
          refine lv_iconst (v := 1) cx.1 cx.2.1 dX12_nextPattern_240 (by decide) ?_
          refine lv_goto (tgt := 245) cx.1 cx.2.1 dX12_nextPattern_241 (by decide) ?_
          exact J245 σ l1 l4 1 _ _ _ h hw (lv_sub hl [0, 1, 3] rfl)
      have J208 : ∀ (σ : md_S) (l1 : Int32) (l4 : Int32) (H : Heap) (locs : List Loc) (ls : Array Slot), f_X12_nextPattern_J208 n (f_X12_nextPattern_L14 n j) σ l1 l4 = some q → hp_w D vwCl (hp_Tl cA) E (hp_A (md_pic cA ad σ0) sz) ss H locs (md_pic cA ad σ) → lv_has ls 8 [(0, .ref (ad 137)), (1, .int l1), (4, .int l4)] → W pp l ee ({ frames := 3, cells := 0, slots := 0, locals := 65 }) ss mm [.ref (ad 137)].toArray bb mt cd H locs 0 0 (MQ bb (hp_Qv D vwCl (hp_Tl cA) sz (md_pic cA ad σ0) (fun u => u = md_pic cA ad p.2)) [.ref (ad 137)].toArray ss 0 0 (hp_A (md_pic cA ad σ0) sz)) (F0 mm 208 ls []) := by
        intro σ l1 l4 H locs ls h hw hl
        refine lv_aload_n cx.1 cx.2.1 dX12_nextPattern_208 rfl (lv_at hl 0 rfl) ?_
        refine lv_dup cx.1 cx.2.1 dX12_nextPattern_209 rfl ?_
        refine md_gI (k := 14) cx hw hin12c rfl (by decide) (List.mem_cons_of_mem _ mm_60) dX12_nextPattern_210 ?_
        refine lv_iconst (v := 1) cx.1 cx.2.1 dX12_nextPattern_213 (by decide) ?_
        refine lv_iadd cx.1 cx.2.1 dX12_nextPattern_214 ?_
        obtain ⟨σ8, e_σ8, h⟩ := md_ob h
        refine md_pI (k := 14) cx hw hin12c rfl (by decide) rfl (List.mem_cons_of_mem _ mm_60) rfl e_σ8 dX12_nextPattern_215 (fun H locs hw => ?_)
        refine lv_goto (tgt := 258) cx.1 cx.2.1 dX12_nextPattern_218 (by decide) ?_
        exact J258 σ8 l1 l4 _ _ _ h hw (lv_sub hl [0, 1, 2] rfl)
      have J185 : ∀ (σ : md_S) (l4 : Int32) (l6 : Int64) (t0 : Int32) (H : Heap) (locs : List Loc) (ls : Array Slot), f_X12_nextPattern_J185 n (f_X12_nextPattern_L14 n j) σ l4 l6 t0 = some q → hp_w D vwCl (hp_Tl cA) E (hp_A (md_pic cA ad σ0) sz) ss H locs (md_pic cA ad σ) → lv_has ls 8 [(0, .ref (ad 137)), (4, .int l4), (6, .long l6)] → W pp l ee ({ frames := 3, cells := 0, slots := 0, locals := 65 }) ss mm [.ref (ad 137)].toArray bb mt cd H locs 0 0 (MQ bb (hp_Qv D vwCl (hp_Tl cA) sz (md_pic cA ad σ0) (fun u => u = md_pic cA ad p.2)) [.ref (ad 137)].toArray ss 0 0 (hp_A (md_pic cA ad σ0) sz)) (F0 mm 185 ls [.int t0]) := by
        intro σ l4 l6 t0 H locs ls h hw hl
        refine lv_istore_n (lv' := [(1, .int t0), (0, .ref (ad 137)), (4, .int l4), (6, .long l6)]) cx.1 cx.2.1 dX12_nextPattern_185 rfl hl (by decide) rfl (fun ls hl => ?_)
        refine lv_aload_n cx.1 cx.2.1 dX12_nextPattern_186 rfl (lv_at hl 1 rfl) ?_
        refine md_gI (k := 14) cx hw hin12c rfl (by decide) (List.mem_cons_of_mem _ mm_60) dX12_nextPattern_187 ?_
        refine lv_aload_n cx.1 cx.2.1 dX12_nextPattern_190 rfl (lv_at hl 1 rfl) ?_
        refine md_gI (k := 16) cx hw hin12c rfl (by decide) (List.mem_cons_of_mem _ mm_62) dX12_nextPattern_191 ?_
        refine lv_icmp_ge (tgt := 208) cx.1 cx.2.1 dX12_nextPattern_194 (by decide) (fun c194 => ?_) (fun c194 => ?_)
        · have h := md_ip c194 h
          exact J208 σ t0 l4 _ _ _ h hw (lv_sub hl [1, 0, 2] rfl)
        · have h := md_in c194 h
          refine lv_aload_n cx.1 cx.2.1 dX12_nextPattern_197 rfl (lv_at hl 1 rfl) ?_
          refine md_gR (k := 13) cx hw hin12c (by decide) (by decide) (List.mem_cons_of_mem _ mm_63) dX12_nextPattern_198 ?_
          refine lv_aload_n cx.1 cx.2.1 dX12_nextPattern_201 rfl (lv_at hl 1 rfl) ?_
          refine md_gI (k := 14) cx hw hin12c rfl (by decide) (List.mem_cons_of_mem _ mm_60) dX12_nextPattern_202 ?_
          refine lv_lload cx.1 cx.2.1 dX12_nextPattern_205 (lv_at hl 3 rfl) ?_
          obtain ⟨σ9, e_σ9, h⟩ := md_ob h
          refine md_sJ (k := 13) hj cx hw (by decide) rfl rfl rfl e_σ9 dX12_nextPattern_207 (fun H locs hw => ?_)
          exact J208 σ9 t0 l4 _ _ _ h hw (lv_sub hl [1, 0, 2] rfl)
      have J184 : ∀ (σ : md_S) (l4 : Int32) (l6 : Int64) (H : Heap) (locs : List Loc) (ls : Array Slot), f_X12_nextPattern_J184 n (f_X12_nextPattern_L14 n j) σ l4 l6 = some q → hp_w D vwCl (hp_Tl cA) E (hp_A (md_pic cA ad σ0) sz) ss H locs (md_pic cA ad σ) → lv_has ls 8 [(0, .ref (ad 137)), (4, .int l4), (6, .long l6)] → W pp l ee ({ frames := 3, cells := 0, slots := 0, locals := 65 }) ss mm [.ref (ad 137)].toArray bb mt cd H locs 0 0 (MQ bb (hp_Qv D vwCl (hp_Tl cA) sz (md_pic cA ad σ0) (fun u => u = md_pic cA ad p.2)) [.ref (ad 137)].toArray ss 0 0 (hp_A (md_pic cA ad σ0) sz)) (F0 mm 184 ls []) := by
        intro σ l4 l6 H locs ls h hw hl
        refine lv_iconst (v := 0) cx.1 cx.2.1 dX12_nextPattern_184 (by decide) ?_
        exact J185 σ l4 l6 0 _ _ _ h hw (lv_sub hl [0, 1, 2] rfl)
      have J48 : ∀ (σ : md_S) (l1 : Int32) (l3 : Int32) (t0 : Int32) (H : Heap) (locs : List Loc) (ls : Array Slot), f_X12_nextPattern_J48 n (f_X12_nextPattern_L14 n j) σ l1 l3 t0 = some q → hp_w D vwCl (hp_Tl cA) E (hp_A (md_pic cA ad σ0) sz) ss H locs (md_pic cA ad σ) → lv_has ls 8 [(0, .ref (ad 137)), (1, .int l1), (3, .int l3)] → W pp l ee ({ frames := 3, cells := 0, slots := 0, locals := 65 }) ss mm [.ref (ad 137)].toArray bb mt cd H locs 0 0 (MQ bb (hp_Qv D vwCl (hp_Tl cA) sz (md_pic cA ad σ0) (fun u => u = md_pic cA ad p.2)) [.ref (ad 137)].toArray ss 0 0 (hp_A (md_pic cA ad σ0) sz)) (F0 mm 48 ls [.int t0]) := by
        intro σ l1 l3 t0 H locs ls h hw hl
        refine lv_istore (lv' := [(4, .int t0), (0, .ref (ad 137)), (1, .int l1), (3, .int l3)]) cx.1 cx.2.1 dX12_nextPattern_48 hl (by decide) rfl (fun ls hl => ?_)
        refine lv_iload cx.1 cx.2.1 dX12_nextPattern_50 (lv_at hl 0 rfl) ?_
        refine lv_if_eq (tgt := 221) cx.1 cx.2.1 dX12_nextPattern_52 (by decide) (fun c52 => ?_) (fun c52 => ?_)
        · have h := md_ip c52 h
          refine lv_iload_n cx.1 cx.2.1 dX12_nextPattern_221 rfl (lv_at hl 3 rfl) ?_
          refine lv_bipush (v := 42) cx.1 cx.2.1 dX12_nextPattern_222 (by decide) ?_
          refine lv_icmp_eq (tgt := 233) cx.1 cx.2.1 dX12_nextPattern_224 (by decide) (fun c224 => ?_) (fun c224 => ?_)
          · have h := md_ip c224 h
            exact J233 σ l1 l3 t0 _ _ _ h hw (lv_sub hl [1, 2, 3, 0] rfl)
          · have h := md_in c224 h
            refine lv_iload_n cx.1 cx.2.1 dX12_nextPattern_227 rfl (lv_at hl 3 rfl) ?_
            refine lv_bipush (v := 45) cx.1 cx.2.1 dX12_nextPattern_228 (by decide) ?_
            refine lv_icmp_ne (tgt := 258) cx.1 cx.2.1 dX12_nextPattern_230 (by decide) (fun c230 => ?_) (fun c230 => ?_)
            · have h := md_in c230 h
              exact J258 σ l1 t0 _ _ _ h hw (lv_sub hl [1, 2, 0] rfl)
            · have h := md_ip c230 h
              exact J233 σ l1 l3 t0 _ _ _ h hw (lv_sub hl [1, 2, 3, 0] rfl)
        · have h := md_in c52 h
          refine lv_aload_n cx.1 cx.2.1 dX12_nextPattern_55 rfl (lv_at hl 1 rfl) ?_
          refine lv_dup cx.1 cx.2.1 dX12_nextPattern_56 rfl ?_
          refine md_gI (k := 10) cx hw hin12c rfl (by decide) (List.mem_cons_of_mem _ mm_42) dX12_nextPattern_57 ?_
          refine lv_iconst (v := 1) cx.1 cx.2.1 dX12_nextPattern_60 (by decide) ?_
          refine lv_iadd cx.1 cx.2.1 dX12_nextPattern_61 ?_
          obtain ⟨σ10, e_σ10, h⟩ := md_ob h
          refine md_pI (k := 10) cx hw hin12c rfl (by decide) rfl (List.mem_cons_of_mem _ mm_42) rfl e_σ10 dX12_nextPattern_62 (fun H locs hw => ?_)
          refine lv_aload_n cx.1 cx.2.1 dX12_nextPattern_65 rfl (lv_at hl 1 rfl) ?_
          refine md_gI (k := 10) cx hw hin12c rfl (by decide) (List.mem_cons_of_mem _ mm_42) dX12_nextPattern_66 ?_
          refine lv_istore (lv' := [(5, .int (mI σ10 10)), (4, .int t0), (0, .ref (ad 137)), (1, .int l1), (3, .int l3)]) cx.1 cx.2.1 dX12_nextPattern_69 hl (by decide) rfl (fun ls hl => ?_)
          refine lv_lconst (v := 0) cx.1 cx.2.1 dX12_nextPattern_71 (by decide) ?_
          refine lv_lstore (lv' := [(6, .long 0), (5, .int (mI σ10 10)), (4, .int t0), (0, .ref (ad 137)), (1, .int l1), (3, .int l3)]) cx.1 cx.2.1 dX12_nextPattern_72 hl (by decide) rfl (fun ls hl => ?_)
          have L74 : ∀ (j : Nat) (σ : md_S) (l1 : Int32) (l4 : Int32) (l5 : Int32) (l6 : Int64) (q : (md_S × Int64)) (H : Heap) (locs : List Loc) (ls : Array Slot), f_X12_nextPattern_L74 n l1 l4 l5 j σ l6 = some q → hp_w D vwCl (hp_Tl cA) E (hp_A (md_pic cA ad σ0) sz) ss H locs (md_pic cA ad σ) → lv_has ls 8 [(0, .ref (ad 137)), (1, .int l1), (4, .int l4), (5, .int l5), (6, .long l6)] → (∀ (H : Heap) (locs : List Loc) (ls : Array Slot), hp_w D vwCl (hp_Tl cA) E (hp_A (md_pic cA ad σ0) sz) ss H locs (md_pic cA ad q.1) → lv_has ls 8 [(0, .ref (ad 137)), (1, .int l1), (4, .int l4), (5, .int l5), (6, .long q.2)] → W pp l ee ({ frames := 3, cells := 0, slots := 0, locals := 65 }) ss mm [.ref (ad 137)].toArray bb mt cd H locs 0 0 (MQ bb (hp_Qv D vwCl (hp_Tl cA) sz (md_pic cA ad σ0) (fun u => u = md_pic cA ad p.2)) [.ref (ad 137)].toArray ss 0 0 (hp_A (md_pic cA ad σ0) sz)) (F0 mm 153 ls [])) → W pp l ee ({ frames := 3, cells := 0, slots := 0, locals := 65 }) ss mm [.ref (ad 137)].toArray bb mt cd H locs 0 0 (MQ bb (hp_Qv D vwCl (hp_Tl cA) sz (md_pic cA ad σ0) (fun u => u = md_pic cA ad p.2)) [.ref (ad 137)].toArray ss 0 0 (hp_A (md_pic cA ad σ0) sz)) (F0 mm 74 ls []) := by
            intro j
            induction j with
            | zero => intro σ l1 l4 l5 l6 q H locs ls h; exact nomatch h
            | succ j ih =>
              intro σ l1 l4 l5 l6 q H locs ls h hw hl K
              have J138 : ∀ (σ : md_S) (t0 : Int64) (H : Heap) (locs : List Loc) (ls : Array Slot), f_X12_nextPattern_J138 n l1 l4 l5 (f_X12_nextPattern_L74 n l1 l4 l5 j) σ t0 = some q → hp_w D vwCl (hp_Tl cA) E (hp_A (md_pic cA ad σ0) sz) ss H locs (md_pic cA ad σ) → lv_has ls 8 [(0, .ref (ad 137)), (1, .int l1), (4, .int l4), (5, .int l5)] → W pp l ee ({ frames := 3, cells := 0, slots := 0, locals := 65 }) ss mm [.ref (ad 137)].toArray bb mt cd H locs 0 0 (MQ bb (hp_Qv D vwCl (hp_Tl cA) sz (md_pic cA ad σ0) (fun u => u = md_pic cA ad p.2)) [.ref (ad 137)].toArray ss 0 0 (hp_A (md_pic cA ad σ0) sz)) (F0 mm 138 ls [.long t0]) := by
                intro σ t0 H locs ls h hw hl
                refine lv_lstore (lv' := [(6, .long t0), (0, .ref (ad 137)), (1, .int l1), (4, .int l4), (5, .int l5)]) cx.1 cx.2.1 dX12_nextPattern_138 hl (by decide) rfl (fun ls hl => ?_)
                refine lv_aload_n cx.1 cx.2.1 dX12_nextPattern_140 rfl (lv_at hl 1 rfl) ?_
                refine lv_dup cx.1 cx.2.1 dX12_nextPattern_141 rfl ?_
                refine md_gI (k := 10) cx hw hin12c rfl (by decide) (List.mem_cons_of_mem _ mm_42) dX12_nextPattern_142 ?_
                refine lv_iconst (v := 1) cx.1 cx.2.1 dX12_nextPattern_145 (by decide) ?_
                refine lv_iadd cx.1 cx.2.1 dX12_nextPattern_146 ?_
                obtain ⟨σ11, e_σ11, h⟩ := md_ob h
                refine md_pI (k := 10) cx hw hin12c rfl (by decide) rfl (List.mem_cons_of_mem _ mm_42) rfl e_σ11 dX12_nextPattern_147 (fun H locs hw => ?_)
                refine lv_goto (tgt := 74) cx.1 cx.2.1 dX12_nextPattern_150 (by decide) ?_
                exact ih σ11 l1 l4 l5 t0 q _ _ _ h hw (lv_sub hl [1, 2, 3, 4, 0] rfl) K
              have J102 : ∀ (σ : md_S) (l6 : Int64) (H : Heap) (locs : List Loc) (ls : Array Slot), f_X12_nextPattern_J102 n l1 l4 l5 (f_X12_nextPattern_L74 n l1 l4 l5 j) σ l6 = some q → hp_w D vwCl (hp_Tl cA) E (hp_A (md_pic cA ad σ0) sz) ss H locs (md_pic cA ad σ) → lv_has ls 8 [(0, .ref (ad 137)), (1, .int l1), (4, .int l4), (5, .int l5), (6, .long l6)] → W pp l ee ({ frames := 3, cells := 0, slots := 0, locals := 65 }) ss mm [.ref (ad 137)].toArray bb mt cd H locs 0 0 (MQ bb (hp_Qv D vwCl (hp_Tl cA) sz (md_pic cA ad σ0) (fun u => u = md_pic cA ad p.2)) [.ref (ad 137)].toArray ss 0 0 (hp_A (md_pic cA ad σ0) sz)) (F0 mm 102 ls []) := by
                intro σ l6 H locs ls h hw hl
                refine lv_aload_n cx.1 cx.2.1 dX12_nextPattern_102 rfl (lv_at hl 0 rfl) ?_
                refine md_gI (k := 10) cx hw hin12c rfl (by decide) (List.mem_cons_of_mem _ mm_42) dX12_nextPattern_103 ?_
                refine lv_iload cx.1 cx.2.1 dX12_nextPattern_106 (lv_at hl 3 rfl) ?_
                refine lv_isub cx.1 cx.2.1 dX12_nextPattern_108 ?_
                refine lv_bipush (v := 6) cx.1 cx.2.1 dX12_nextPattern_109 (by decide) ?_
                refine lv_icmp_ge (tgt := 136) cx.1 cx.2.1 dX12_nextPattern_111 (by decide) (fun c111 => ?_) (fun c111 => ?_)
                · have h := md_ip c111 h
                  refine lv_lload cx.1 cx.2.1 dX12_nextPattern_136 (lv_at hl 4 rfl) ?_
                  exact J138 σ l6 _ _ _ h hw (lv_sub hl [0, 1, 2, 3] rfl)
                · have h := md_in c111 h
                  refine lv_ldc2 cx.1 cx.2.1 cx.2.2.2.2.1 (cx.2.2.2.2.2.1 _ (List.mem_cons_of_mem _ mm_24)) dX12_nextPattern_114 ?_
                  refine lv_lload cx.1 cx.2.1 dX12_nextPattern_117 (lv_at hl 4 rfl) ?_
                  refine lv_lmul cx.1 cx.2.1 dX12_nextPattern_119 ?_
                  refine lv_aload_n cx.1 cx.2.1 dX12_nextPattern_120 rfl (lv_at hl 0 rfl) ?_
                  refine lv_aload_n cx.1 cx.2.1 dX12_nextPattern_121 rfl (lv_at hl 0 rfl) ?_
                  refine md_gI (k := 10) cx hw hin12c rfl (by decide) (List.mem_cons_of_mem _ mm_42) dX12_nextPattern_122 ?_
                  obtain ⟨p12, e_p12, h⟩ := md_ob h
                  refine hp_callVi (As := [.int (mI σ 10)]) (rest := [.long ((37 : Int64) * l6)]) cx hw (km_X12_at l D cA E _ ad hj hE n σ ((mI σ 10)) p12 e_p12) (cwV 1 cx.2.2.2.2.2.1 (md_giV mm_43 mm_44 mm_45 mm_5 mm_46) rfl rfl rfl hd_X12_at ⟨Nat.le_of_ble_eq_true rfl, Nat.le_of_ble_eq_true rfl⟩) md_at0 rfl rfl hl.1 rfl (Nat.le_of_ble_eq_true rfl) dX12_nextPattern_125 ⟨Nat.le_refl _, Nat.le_refl _⟩ (fun r u H locs hp hw => ?_)
                  obtain ⟨rfl, rfl⟩ := hp
                  obtain ⟨p13, e_p13, h⟩ := md_ob h
                  refine hp_callSi (As := [.int p12.1]) (rest := [.long ((37 : Int64) * l6)]) cx hw (km_X12_digitOf l D cA E _ ad hj hE n p12.2 (p12.1) p13 e_p13) (cwS 1 cx.2.2.2.2.2.1 (md_giS mm_29 mm_30 mm_5 mm_31) rfl rfl rfl hd_X12_digitOf ⟨Nat.le_of_ble_eq_true rfl, Nat.le_of_ble_eq_true rfl⟩) rfl hl.1 rfl (Nat.le_of_ble_eq_true rfl) dX12_nextPattern_128 ⟨Nat.le_refl _, Nat.le_refl _⟩ (fun r u H locs hp hw => ?_)
                  obtain ⟨rfl, rfl⟩ := hp
                  refine lv_i2l (v := (p13.1.toInt64)) cx.1 cx.2.1 dX12_nextPattern_131 rfl ?_
                  refine lv_ladd cx.1 cx.2.1 dX12_nextPattern_132 ?_
                  refine lv_goto (tgt := 138) cx.1 cx.2.1 dX12_nextPattern_133 (by decide) ?_
                  exact J138 p13.2 ((((37 : Int64) * l6) + (p13.1.toInt64))) _ _ _ h hw (lv_sub hl [0, 1, 2, 3] rfl)
              refine lv_aload_n cx.1 cx.2.1 dX12_nextPattern_74 rfl (lv_at hl 0 rfl) ?_
              refine lv_aload_n cx.1 cx.2.1 dX12_nextPattern_75 rfl (lv_at hl 0 rfl) ?_
              refine md_gI (k := 10) cx hw hin12c rfl (by decide) (List.mem_cons_of_mem _ mm_42) dX12_nextPattern_76 ?_
              obtain ⟨p14, e_p14, h⟩ := md_ob h
              refine hp_callVi (As := [.int (mI σ 10)]) (rest := []) cx hw (km_X12_at l D cA E _ ad hj hE n σ ((mI σ 10)) p14 e_p14) (cwV 1 cx.2.2.2.2.2.1 (md_giV mm_43 mm_44 mm_45 mm_5 mm_46) rfl rfl rfl hd_X12_at ⟨Nat.le_of_ble_eq_true rfl, Nat.le_of_ble_eq_true rfl⟩) md_at0 rfl rfl hl.1 rfl (Nat.le_of_ble_eq_true rfl) dX12_nextPattern_79 ⟨Nat.le_refl _, Nat.le_refl _⟩ (fun r u H locs hp hw => ?_)
              obtain ⟨rfl, rfl⟩ := hp
              obtain ⟨p15, e_p15, h⟩ := md_ob h
              refine hp_callSi (As := [.int p14.1]) (rest := []) cx hw (km_X12_isLetter l D cA E _ ad hj hE n p14.2 (p14.1) p15 e_p15) (cwS 1 cx.2.2.2.2.2.1 (md_giS mm_21 mm_22 mm_5 mm_23) rfl rfl rfl hd_X12_isLetter ⟨Nat.le_of_ble_eq_true rfl, Nat.le_of_ble_eq_true rfl⟩) rfl hl.1 rfl (Nat.le_of_ble_eq_true rfl) dX12_nextPattern_82 ⟨Nat.le_refl _, Nat.le_refl _⟩ (fun r u H locs hp hw => ?_)
              obtain ⟨rfl, rfl⟩ := hp
              refine lv_if_ne (tgt := 102) cx.1 cx.2.1 dX12_nextPattern_85 (by decide) (fun c85 => ?_) (fun c85 => ?_)
              · have h := md_in c85 h
                exact J102 p15.2 l6 _ _ _ h hw (lv_sub hl [0, 1, 2, 3, 4] rfl)
              · have h := md_ip c85 h
                refine lv_aload_n cx.1 cx.2.1 dX12_nextPattern_88 rfl (lv_at hl 0 rfl) ?_
                refine lv_aload_n cx.1 cx.2.1 dX12_nextPattern_89 rfl (lv_at hl 0 rfl) ?_
                refine md_gI (k := 10) cx hw hin12c rfl (by decide) (List.mem_cons_of_mem _ mm_42) dX12_nextPattern_90 ?_
                obtain ⟨p16, e_p16, h⟩ := md_ob h
                refine hp_callVi (As := [.int (mI p15.2 10)]) (rest := []) cx hw (km_X12_at l D cA E _ ad hj hE n p15.2 ((mI p15.2 10)) p16 e_p16) (cwV 1 cx.2.2.2.2.2.1 (md_giV mm_43 mm_44 mm_45 mm_5 mm_46) rfl rfl rfl hd_X12_at ⟨Nat.le_of_ble_eq_true rfl, Nat.le_of_ble_eq_true rfl⟩) md_at0 rfl rfl hl.1 rfl (Nat.le_of_ble_eq_true rfl) dX12_nextPattern_93 ⟨Nat.le_refl _, Nat.le_refl _⟩ (fun r u H locs hp hw => ?_)
                obtain ⟨rfl, rfl⟩ := hp
                obtain ⟨p17, e_p17, h⟩ := md_ob h
                refine hp_callSi (As := [.int p16.1]) (rest := []) cx hw (km_X12_isDigit l D cA E _ ad hj hE n p16.2 (p16.1) p17 e_p17) (cwS 1 cx.2.2.2.2.2.1 (md_giS mm_47 mm_48 mm_5 mm_49) rfl rfl rfl hd_X12_isDigit ⟨Nat.le_of_ble_eq_true rfl, Nat.le_of_ble_eq_true rfl⟩) rfl hl.1 rfl (Nat.le_of_ble_eq_true rfl) dX12_nextPattern_96 ⟨Nat.le_refl _, Nat.le_refl _⟩ (fun r u H locs hp hw => ?_)
                obtain ⟨rfl, rfl⟩ := hp
                refine lv_if_eq (tgt := 153) cx.1 cx.2.1 dX12_nextPattern_99 (by decide) (fun c99 => ?_) (fun c99 => ?_)
                · have h := md_ip c99 h
                  obtain rfl := Option.some.inj h
                  exact K _ _ _ hw (lv_sub hl [0, 1, 2, 3, 4] rfl)
                · have h := md_in c99 h
                  exact J102 p17.2 l6 _ _ _ h hw (lv_sub hl [0, 1, 2, 3, 4] rfl)
          obtain ⟨q18, e_q18, h⟩ := md_ob h
          refine L74 n σ10 l1 t0 ((mI σ10 10)) 0 q18 _ _ _ e_q18 hw (lv_sub hl [3, 4, 2, 1, 0] rfl) (fun H locs ls hw hl => ?_)
          refine lv_iload_n cx.1 cx.2.1 dX12_nextPattern_153 rfl (lv_at hl 1 rfl) ?_
          refine lv_if_eq (tgt := 184) cx.1 cx.2.1 dX12_nextPattern_154 (by decide) (fun c154 => ?_) (fun c154 => ?_)
          · have h := md_ip c154 h
            exact J184 q18.1 t0 (q18.2) _ _ _ h hw (lv_sub hl [0, 2, 4] rfl)
          · have h := md_in c154 h
            refine lv_aload_n cx.1 cx.2.1 dX12_nextPattern_157 rfl (lv_at hl 0 rfl) ?_
            refine md_gI (k := 10) cx hw hin12c rfl (by decide) (List.mem_cons_of_mem _ mm_42) dX12_nextPattern_158 ?_
            refine lv_iload cx.1 cx.2.1 dX12_nextPattern_161 (lv_at hl 3 rfl) ?_
            refine lv_isub cx.1 cx.2.1 dX12_nextPattern_163 ?_
            refine lv_bipush (v := 6) cx.1 cx.2.1 dX12_nextPattern_164 (by decide) ?_
            refine lv_icmp_gt (tgt := 184) cx.1 cx.2.1 dX12_nextPattern_166 (by decide) (fun c166 => ?_) (fun c166 => ?_)
            · have h := md_ip c166 h
              exact J184 q18.1 t0 (q18.2) _ _ _ h hw (lv_sub hl [0, 2, 4] rfl)
            · have h := md_in c166 h
              refine lv_aload_n cx.1 cx.2.1 dX12_nextPattern_169 rfl (lv_at hl 0 rfl) ?_
              refine md_gI (k := 14) cx hw hin12c rfl (by decide) (List.mem_cons_of_mem _ mm_60) dX12_nextPattern_170 ?_
              refine lv_aload_n cx.1 cx.2.1 dX12_nextPattern_173 rfl (lv_at hl 0 rfl) ?_
              refine md_gI (k := 16) cx hw hin12c rfl (by decide) (List.mem_cons_of_mem _ mm_62) dX12_nextPattern_174 ?_
              refine lv_icmp_ge (tgt := 184) cx.1 cx.2.1 dX12_nextPattern_177 (by decide) (fun c177 => ?_) (fun c177 => ?_)
              · have h := md_ip c177 h
                exact J184 q18.1 t0 (q18.2) _ _ _ h hw (lv_sub hl [0, 2, 4] rfl)
              · have h := md_in c177 h
                refine lv_iconst (v := 1) cx.1 cx.2.1 dX12_nextPattern_180 (by decide) ?_
                refine lv_goto (tgt := 185) cx.1 cx.2.1 dX12_nextPattern_181 (by decide) ?_
                exact J185 q18.1 t0 (q18.2) 1 _ _ _ h hw (lv_sub hl [0, 2, 4] rfl)
      have J43 : ∀ (σ : md_S) (l1 : Int32) (l3 : Int32) (H : Heap) (locs : List Loc) (ls : Array Slot), f_X12_nextPattern_J43 n (f_X12_nextPattern_L14 n j) σ l1 l3 = some q → hp_w D vwCl (hp_Tl cA) E (hp_A (md_pic cA ad σ0) sz) ss H locs (md_pic cA ad σ) → lv_has ls 8 [(0, .ref (ad 137)), (1, .int l1), (3, .int l3)] → W pp l ee ({ frames := 3, cells := 0, slots := 0, locals := 65 }) ss mm [.ref (ad 137)].toArray bb mt cd H locs 0 0 (MQ bb (hp_Qv D vwCl (hp_Tl cA) sz (md_pic cA ad σ0) (fun u => u = md_pic cA ad p.2)) [.ref (ad 137)].toArray ss 0 0 (hp_A (md_pic cA ad σ0) sz)) (F0 mm 43 ls []) := by
        intro σ l1 l3 H locs ls h hw hl
        refine lv_iconst (v := 1) cx.1 cx.2.1 dX12_nextPattern_43 (by decide) ?_
        refine lv_goto (tgt := 48) cx.1 cx.2.1 dX12_nextPattern_44 (by decide) ?_
        exact J48 σ l1 l3 1 _ _ _ h hw (lv_sub hl [0, 1, 2] rfl)
      refine lv_iload_n cx.1 cx.2.1 dX12_nextPattern_14 rfl (lv_at hl 2 rfl) ?_
      refine lv_if_eq (tgt := 285) cx.1 cx.2.1 dX12_nextPattern_15 (by decide) (fun c15 => ?_) (fun c15 => ?_)
      · have h := md_ip c15 h
        obtain rfl := Option.some.inj h
        exact K _ _ _ hw (lv_sub hl [0, 1] rfl)
      · have h := md_in c15 h
        refine lv_aload_n cx.1 cx.2.1 dX12_nextPattern_18 rfl (lv_at hl 0 rfl) ?_
        refine lv_aload_n cx.1 cx.2.1 dX12_nextPattern_19 rfl (lv_at hl 0 rfl) ?_
        refine md_gI (k := 10) cx hw hin12c rfl (by decide) (List.mem_cons_of_mem _ mm_42) dX12_nextPattern_20 ?_
        refine lv_iconst (v := 1) cx.1 cx.2.1 dX12_nextPattern_23 (by decide) ?_
        refine lv_iadd cx.1 cx.2.1 dX12_nextPattern_24 ?_
        obtain ⟨p19, e_p19, h⟩ := md_ob h
        refine hp_callVi (As := [.int ((mI σ 10) + 1)]) (rest := []) cx hw (km_X12_at l D cA E _ ad hj hE n σ (((mI σ 10) + 1)) p19 e_p19) (cwV 1 cx.2.2.2.2.2.1 (md_giV mm_43 mm_44 mm_45 mm_5 mm_46) rfl rfl rfl hd_X12_at ⟨Nat.le_of_ble_eq_true rfl, Nat.le_of_ble_eq_true rfl⟩) md_at0 rfl rfl hl.1 rfl (Nat.le_of_ble_eq_true rfl) dX12_nextPattern_25 ⟨Nat.le_refl _, Nat.le_refl _⟩ (fun r u H locs hp hw => ?_)
        obtain ⟨rfl, rfl⟩ := hp
        refine lv_istore_n (lv' := [(3, .int p19.1), (0, .ref (ad 137)), (1, .int l1), (2, .int l2)]) cx.1 cx.2.1 dX12_nextPattern_28 rfl hl (by decide) rfl (fun ls hl => ?_)
        refine lv_iload_n cx.1 cx.2.1 dX12_nextPattern_29 rfl (lv_at hl 0 rfl) ?_
        obtain ⟨p20, e_p20, h⟩ := md_ob h
        refine hp_callSi (As := [.int p19.1]) (rest := []) cx hw (km_X12_isLetter l D cA E _ ad hj hE n p19.2 (p19.1) p20 e_p20) (cwS 1 cx.2.2.2.2.2.1 (md_giS mm_21 mm_22 mm_5 mm_23) rfl rfl rfl hd_X12_isLetter ⟨Nat.le_of_ble_eq_true rfl, Nat.le_of_ble_eq_true rfl⟩) rfl hl.1 rfl (Nat.le_of_ble_eq_true rfl) dX12_nextPattern_30 ⟨Nat.le_refl _, Nat.le_refl _⟩ (fun r u H locs hp hw => ?_)
        obtain ⟨rfl, rfl⟩ := hp
        refine lv_if_ne (tgt := 43) cx.1 cx.2.1 dX12_nextPattern_33 (by decide) (fun c33 => ?_) (fun c33 => ?_)
        · have h := md_in c33 h
          exact J43 p20.2 l1 (p19.1) _ _ _ h hw (lv_sub hl [1, 2, 0] rfl)
        · have h := md_ip c33 h
          refine lv_iload_n cx.1 cx.2.1 dX12_nextPattern_36 rfl (lv_at hl 0 rfl) ?_
          obtain ⟨p21, e_p21, h⟩ := md_ob h
          refine hp_callSi (As := [.int p19.1]) (rest := []) cx hw (km_X12_isDigit l D cA E _ ad hj hE n p20.2 (p19.1) p21 e_p21) (cwS 1 cx.2.2.2.2.2.1 (md_giS mm_47 mm_48 mm_5 mm_49) rfl rfl rfl hd_X12_isDigit ⟨Nat.le_of_ble_eq_true rfl, Nat.le_of_ble_eq_true rfl⟩) rfl hl.1 rfl (Nat.le_of_ble_eq_true rfl) dX12_nextPattern_37 ⟨Nat.le_refl _, Nat.le_refl _⟩ (fun r u H locs hp hw => ?_)
          obtain ⟨rfl, rfl⟩ := hp
          refine lv_if_eq (tgt := 47) cx.1 cx.2.1 dX12_nextPattern_40 (by decide) (fun c40 => ?_) (fun c40 => ?_)
          · have h := md_ip c40 h
            refine lv_iconst (v := 0) cx.1 cx.2.1 dX12_nextPattern_47 (by decide) ?_
            exact J48 p21.2 l1 (p19.1) 0 _ _ _ h hw (lv_sub hl [1, 2, 0] rfl)
          · have h := md_in c40 h
            exact J43 p21.2 l1 (p19.1) _ _ _ h hw (lv_sub hl [1, 2, 0] rfl)
  obtain ⟨q22, e_q22, h⟩ := md_ob h
  refine L14 n σ4 1 1 q22 _ _ _ e_q22 hw (lv_sub hl [2, 1, 0] rfl) (fun H locs ls hw hl => ?_)
  refine lv_iload_n cx.1 cx.2.1 dX12_nextPattern_285 rfl (lv_at hl 1 rfl) ?_
  refine lv_if_eq (tgt := 303) cx.1 cx.2.1 dX12_nextPattern_286 (by decide) (fun c286 => ?_) (fun c286 => ?_)
  · have h := md_ip c286 h
    exact J303 q22.1 _ _ _ h hw (lv_sub hl [0] rfl)
  · have h := md_in c286 h
    refine lv_aload_n cx.1 cx.2.1 dX12_nextPattern_289 rfl (lv_at hl 0 rfl) ?_
    refine md_gI (k := 14) cx hw hin12c rfl (by decide) (List.mem_cons_of_mem _ mm_60) dX12_nextPattern_290 ?_
    refine lv_if_ne (tgt := 309) cx.1 cx.2.1 dX12_nextPattern_293 (by decide) (fun c293 => ?_) (fun c293 => ?_)
    · have h := md_in c293 h
      exact J309 q22.1 _ _ _ h hw (lv_sub hl [0] rfl)
    · have h := md_ip c293 h
      refine lv_aload_n cx.1 cx.2.1 dX12_nextPattern_296 rfl (lv_at hl 0 rfl) ?_
      refine md_gI (k := 15) cx hw hin12c rfl (by decide) (List.mem_cons_of_mem _ mm_61) dX12_nextPattern_297 ?_
      refine lv_if_ne (tgt := 309) cx.1 cx.2.1 dX12_nextPattern_300 (by decide) (fun c300 => ?_) (fun c300 => ?_)
      · have h := md_in c300 h
        exact J309 q22.1 _ _ _ h hw (lv_sub hl [0] rfl)
      · have h := md_ip c300 h
        exact J303 q22.1 _ _ _ h hw (lv_sub hl [0] rfl)
set_option maxHeartbeats 4000000 in
set_option maxRecDepth 100000 in
theorem km_X12_nextSign (l : Launch) (D : va_G) (cA : Nat → ClassId) (E : hp_N) (sz : Nat) (ad : Nat → Nat) (hj : md_inj ad) (hE : md_E E) (n : Nat) (σ0 : md_S) (a1 : Int32) (p : (Int32 × md_S)) (h : f_X12_nextSign n σ0 a1 = some p) : Met l yX12_nextSign (Cond.code yX12_nextSign cX12_nextSign 3 none :: v_MOD) ({ frames := 2, cells := 0, slots := 0, locals := 43 }) (hp_Pc D vwCl (hp_Tl cA) E sz (md_pic cA ad σ0) [.ref (ad 137), .int a1]) (hp_Qv D vwCl (hp_Tl cA) sz (md_pic cA ad σ0) (fun u => u = md_pic cA ad p.2)) 0 0 (hp_A (md_pic cA ad σ0) sz) := by
  refine hp_ofW (cc := cX12_nextSign) (maxL := 3) (ret := none) (by decide) rfl (Nat.le_of_ble_eq_true rfl) ?_
  intro pp ee ss mm bb mt cd ls cx hsz hw hl
  have hl : lv_has ls 3 [(0, .ref (ad 137)), (1, .int a1)] := hl
  have J180 : ∀ (σ : md_S) (t0 : Int32) (H : Heap) (locs : List Loc) (ls : Array Slot), f_X12_nextSign_J180 n σ t0 = some p → hp_w D vwCl (hp_Tl cA) E (hp_A (md_pic cA ad σ0) sz) ss H locs (md_pic cA ad σ) → lv_has ls 3 [(0, .ref (ad 137))] → W pp l ee ({ frames := 2, cells := 0, slots := 0, locals := 43 }) ss mm [.ref (ad 137), .int a1].toArray bb mt cd H locs 0 0 (MQ bb (hp_Qv D vwCl (hp_Tl cA) sz (md_pic cA ad σ0) (fun u => u = md_pic cA ad p.2)) [.ref (ad 137), .int a1].toArray ss 0 0 (hp_A (md_pic cA ad σ0) sz)) (F0 mm 180 ls [.int t0]) := by
    intro σ t0 H locs ls h hw hl
    refine lv_istore_n (lv' := [(2, .int t0), (0, .ref (ad 137))]) cx.1 cx.2.1 dX12_nextSign_180 rfl hl (by decide) rfl (fun ls hl => ?_)
    refine lv_iload_n cx.1 cx.2.1 dX12_nextSign_181 rfl (lv_at hl 0 rfl) ?_
    refine lv_if_ne (tgt := 190) cx.1 cx.2.1 dX12_nextSign_182 (by decide) (fun c182 => ?_) (fun c182 => ?_)
    · have h := md_in c182 h
      exact hp_vret cx hw (md_retv h) dX12_nextSign_190
    · have h := md_ip c182 h
      refine lv_aload_n cx.1 cx.2.1 dX12_nextSign_185 rfl (lv_at hl 1 rfl) ?_
      refine lv_iconst (v := 1) cx.1 cx.2.1 dX12_nextSign_186 (by decide) ?_
      obtain ⟨p1, e_p1, h⟩ := md_ob h
      refine hp_callVv (As := [.int 1]) (rest := []) cx hw (km_X12_fails l D cA E _ ad hj hE n σ (1 : Int32) p1 e_p1) (cwV 1 cx.2.2.2.2.2.1 (md_giV mm_54 mm_55 mm_56 mm_5 mm_57) rfl rfl rfl hd_X12_fails ⟨Nat.le_of_ble_eq_true rfl, Nat.le_of_ble_eq_true rfl⟩) md_at0 rfl rfl hl.1 rfl (Nat.le_of_ble_eq_true rfl) dX12_nextSign_187 ⟨Nat.le_refl _, Nat.le_refl _⟩ (fun u H locs hp hw => ?_)
      obtain rfl := hp
      exact hp_vret cx hw (md_retv h) dX12_nextSign_190
  have J175 : ∀ (σ : md_S) (H : Heap) (locs : List Loc) (ls : Array Slot), f_X12_nextSign_J175 n σ = some p → hp_w D vwCl (hp_Tl cA) E (hp_A (md_pic cA ad σ0) sz) ss H locs (md_pic cA ad σ) → lv_has ls 3 [(0, .ref (ad 137))] → W pp l ee ({ frames := 2, cells := 0, slots := 0, locals := 43 }) ss mm [.ref (ad 137), .int a1].toArray bb mt cd H locs 0 0 (MQ bb (hp_Qv D vwCl (hp_Tl cA) sz (md_pic cA ad σ0) (fun u => u = md_pic cA ad p.2)) [.ref (ad 137), .int a1].toArray ss 0 0 (hp_A (md_pic cA ad σ0) sz)) (F0 mm 175 ls []) := by
    intro σ H locs ls h hw hl
    refine lv_iconst (v := 1) cx.1 cx.2.1 dX12_nextSign_175 (by decide) ?_
    refine lv_goto (tgt := 180) cx.1 cx.2.1 dX12_nextSign_176 (by decide) ?_
    exact J180 σ 1 _ _ _ h hw (lv_sub hl [0] rfl)
  have J128 : ∀ (σ : md_S) (l1 : Int32) (t0 : Int32) (H : Heap) (locs : List Loc) (ls : Array Slot), f_X12_nextSign_J128 n σ l1 t0 = some p → hp_w D vwCl (hp_Tl cA) E (hp_A (md_pic cA ad σ0) sz) ss H locs (md_pic cA ad σ) → lv_has ls 3 [(0, .ref (ad 137)), (1, .int l1)] → W pp l ee ({ frames := 2, cells := 0, slots := 0, locals := 43 }) ss mm [.ref (ad 137), .int a1].toArray bb mt cd H locs 0 0 (MQ bb (hp_Qv D vwCl (hp_Tl cA) sz (md_pic cA ad σ0) (fun u => u = md_pic cA ad p.2)) [.ref (ad 137), .int a1].toArray ss 0 0 (hp_A (md_pic cA ad σ0) sz)) (F0 mm 128 ls [.int t0]) := by
    intro σ l1 t0 H locs ls h hw hl
    refine lv_istore_n (lv' := [(2, .int t0), (0, .ref (ad 137)), (1, .int l1)]) cx.1 cx.2.1 dX12_nextSign_128 rfl hl (by decide) rfl (fun ls hl => ?_)
    refine lv_iload_n cx.1 cx.2.1 dX12_nextSign_129 rfl (lv_at hl 0 rfl) ?_
    refine lv_if_ne (tgt := 175) cx.1 cx.2.1 dX12_nextSign_130 (by decide) (fun c130 => ?_) (fun c130 => ?_)
    · have h := md_in c130 h
      exact J175 σ _ _ _ h hw (lv_sub hl [1] rfl)
    · have h := md_ip c130 h
      refine lv_iload_n cx.1 cx.2.1 dX12_nextSign_133 rfl (lv_at hl 2 rfl) ?_
      refine lv_bipush (v := 58) cx.1 cx.2.1 dX12_nextSign_134 (by decide) ?_
      refine lv_icmp_eq (tgt := 175) cx.1 cx.2.1 dX12_nextSign_136 (by decide) (fun c136 => ?_) (fun c136 => ?_)
      · have h := md_ip c136 h
        exact J175 σ _ _ _ h hw (lv_sub hl [1] rfl)
      · have h := md_in c136 h
        refine lv_iload_n cx.1 cx.2.1 dX12_nextSign_139 rfl (lv_at hl 2 rfl) ?_
        refine lv_bipush (v := 61) cx.1 cx.2.1 dX12_nextSign_140 (by decide) ?_
        refine lv_icmp_eq (tgt := 175) cx.1 cx.2.1 dX12_nextSign_142 (by decide) (fun c142 => ?_) (fun c142 => ?_)
        · have h := md_ip c142 h
          exact J175 σ _ _ _ h hw (lv_sub hl [1] rfl)
        · have h := md_in c142 h
          refine lv_iload_n cx.1 cx.2.1 dX12_nextSign_145 rfl (lv_at hl 2 rfl) ?_
          refine lv_bipush (v := 46) cx.1 cx.2.1 dX12_nextSign_146 (by decide) ?_
          refine lv_icmp_eq (tgt := 175) cx.1 cx.2.1 dX12_nextSign_148 (by decide) (fun c148 => ?_) (fun c148 => ?_)
          · have h := md_ip c148 h
            exact J175 σ _ _ _ h hw (lv_sub hl [1] rfl)
          · have h := md_in c148 h
            refine lv_iload_n cx.1 cx.2.1 dX12_nextSign_151 rfl (lv_at hl 2 rfl) ?_
            refine lv_bipush (v := 43) cx.1 cx.2.1 dX12_nextSign_152 (by decide) ?_
            refine lv_icmp_eq (tgt := 175) cx.1 cx.2.1 dX12_nextSign_154 (by decide) (fun c154 => ?_) (fun c154 => ?_)
            · have h := md_ip c154 h
              exact J175 σ _ _ _ h hw (lv_sub hl [1] rfl)
            · have h := md_in c154 h
              refine lv_iload_n cx.1 cx.2.1 dX12_nextSign_157 rfl (lv_at hl 2 rfl) ?_
              refine lv_bipush (v := 45) cx.1 cx.2.1 dX12_nextSign_158 (by decide) ?_
              refine lv_icmp_eq (tgt := 175) cx.1 cx.2.1 dX12_nextSign_160 (by decide) (fun c160 => ?_) (fun c160 => ?_)
              · have h := md_ip c160 h
                exact J175 σ _ _ _ h hw (lv_sub hl [1] rfl)
              · have h := md_in c160 h
                refine lv_iload_n cx.1 cx.2.1 dX12_nextSign_163 rfl (lv_at hl 2 rfl) ?_
                refine lv_bipush (v := 42) cx.1 cx.2.1 dX12_nextSign_164 (by decide) ?_
                refine lv_icmp_eq (tgt := 175) cx.1 cx.2.1 dX12_nextSign_166 (by decide) (fun c166 => ?_) (fun c166 => ?_)
                · have h := md_ip c166 h
                  exact J175 σ _ _ _ h hw (lv_sub hl [1] rfl)
                · have h := md_in c166 h
                  refine lv_iload_n cx.1 cx.2.1 dX12_nextSign_169 rfl (lv_at hl 2 rfl) ?_
                  refine lv_bipush (v := 60) cx.1 cx.2.1 dX12_nextSign_170 (by decide) ?_
                  refine lv_icmp_ne (tgt := 179) cx.1 cx.2.1 dX12_nextSign_172 (by decide) (fun c172 => ?_) (fun c172 => ?_)
                  · have h := md_in c172 h
                    refine lv_iconst (v := 0) cx.1 cx.2.1 dX12_nextSign_179 (by decide) ?_
                    exact J180 σ 0 _ _ _ h hw (lv_sub hl [1] rfl)
                  · have h := md_ip c172 h
                    exact J175 σ _ _ _ h hw (lv_sub hl [1] rfl)
  have J123 : ∀ (σ : md_S) (l1 : Int32) (H : Heap) (locs : List Loc) (ls : Array Slot), f_X12_nextSign_J123 n σ l1 = some p → hp_w D vwCl (hp_Tl cA) E (hp_A (md_pic cA ad σ0) sz) ss H locs (md_pic cA ad σ) → lv_has ls 3 [(0, .ref (ad 137)), (1, .int l1)] → W pp l ee ({ frames := 2, cells := 0, slots := 0, locals := 43 }) ss mm [.ref (ad 137), .int a1].toArray bb mt cd H locs 0 0 (MQ bb (hp_Qv D vwCl (hp_Tl cA) sz (md_pic cA ad σ0) (fun u => u = md_pic cA ad p.2)) [.ref (ad 137), .int a1].toArray ss 0 0 (hp_A (md_pic cA ad σ0) sz)) (F0 mm 123 ls []) := by
    intro σ l1 H locs ls h hw hl
    refine lv_iconst (v := 1) cx.1 cx.2.1 dX12_nextSign_123 (by decide) ?_
    refine lv_goto (tgt := 128) cx.1 cx.2.1 dX12_nextSign_124 (by decide) ?_
    exact J128 σ l1 1 _ _ _ h hw (lv_sub hl [0, 1] rfl)
  have J75 : ∀ (σ : md_S) (l1 : Int32) (H : Heap) (locs : List Loc) (ls : Array Slot), f_X12_nextSign_J75 n σ l1 = some p → hp_w D vwCl (hp_Tl cA) E (hp_A (md_pic cA ad σ0) sz) ss H locs (md_pic cA ad σ) → lv_has ls 3 [(0, .ref (ad 137)), (1, .int l1)] → W pp l ee ({ frames := 2, cells := 0, slots := 0, locals := 43 }) ss mm [.ref (ad 137), .int a1].toArray bb mt cd H locs 0 0 (MQ bb (hp_Qv D vwCl (hp_Tl cA) sz (md_pic cA ad σ0) (fun u => u = md_pic cA ad p.2)) [.ref (ad 137), .int a1].toArray ss 0 0 (hp_A (md_pic cA ad σ0) sz)) (F0 mm 75 ls []) := by
    intro σ l1 H locs ls h hw hl
    refine lv_iload_n cx.1 cx.2.1 dX12_nextSign_75 rfl (lv_at hl 1 rfl) ?_
    refine lv_bipush (v := 123) cx.1 cx.2.1 dX12_nextSign_76 (by decide) ?_
    refine lv_icmp_eq (tgt := 123) cx.1 cx.2.1 dX12_nextSign_78 (by decide) (fun c78 => ?_) (fun c78 => ?_)
    · have h := md_ip c78 h
      exact J123 σ l1 _ _ _ h hw (lv_sub hl [0, 1] rfl)
    · have h := md_in c78 h
      refine lv_iload_n cx.1 cx.2.1 dX12_nextSign_81 rfl (lv_at hl 1 rfl) ?_
      refine lv_bipush (v := 125) cx.1 cx.2.1 dX12_nextSign_82 (by decide) ?_
      refine lv_icmp_eq (tgt := 123) cx.1 cx.2.1 dX12_nextSign_84 (by decide) (fun c84 => ?_) (fun c84 => ?_)
      · have h := md_ip c84 h
        exact J123 σ l1 _ _ _ h hw (lv_sub hl [0, 1] rfl)
      · have h := md_in c84 h
        refine lv_iload_n cx.1 cx.2.1 dX12_nextSign_87 rfl (lv_at hl 1 rfl) ?_
        refine lv_bipush (v := 40) cx.1 cx.2.1 dX12_nextSign_88 (by decide) ?_
        refine lv_icmp_eq (tgt := 123) cx.1 cx.2.1 dX12_nextSign_90 (by decide) (fun c90 => ?_) (fun c90 => ?_)
        · have h := md_ip c90 h
          exact J123 σ l1 _ _ _ h hw (lv_sub hl [0, 1] rfl)
        · have h := md_in c90 h
          refine lv_iload_n cx.1 cx.2.1 dX12_nextSign_93 rfl (lv_at hl 1 rfl) ?_
          refine lv_bipush (v := 41) cx.1 cx.2.1 dX12_nextSign_94 (by decide) ?_
          refine lv_icmp_eq (tgt := 123) cx.1 cx.2.1 dX12_nextSign_96 (by decide) (fun c96 => ?_) (fun c96 => ?_)
          · have h := md_ip c96 h
            exact J123 σ l1 _ _ _ h hw (lv_sub hl [0, 1] rfl)
          · have h := md_in c96 h
            refine lv_iload_n cx.1 cx.2.1 dX12_nextSign_99 rfl (lv_at hl 1 rfl) ?_
            refine lv_bipush (v := 91) cx.1 cx.2.1 dX12_nextSign_100 (by decide) ?_
            refine lv_icmp_eq (tgt := 123) cx.1 cx.2.1 dX12_nextSign_102 (by decide) (fun c102 => ?_) (fun c102 => ?_)
            · have h := md_ip c102 h
              exact J123 σ l1 _ _ _ h hw (lv_sub hl [0, 1] rfl)
            · have h := md_in c102 h
              refine lv_iload_n cx.1 cx.2.1 dX12_nextSign_105 rfl (lv_at hl 1 rfl) ?_
              refine lv_bipush (v := 93) cx.1 cx.2.1 dX12_nextSign_106 (by decide) ?_
              refine lv_icmp_eq (tgt := 123) cx.1 cx.2.1 dX12_nextSign_108 (by decide) (fun c108 => ?_) (fun c108 => ?_)
              · have h := md_ip c108 h
                exact J123 σ l1 _ _ _ h hw (lv_sub hl [0, 1] rfl)
              · have h := md_in c108 h
                refine lv_iload_n cx.1 cx.2.1 dX12_nextSign_111 rfl (lv_at hl 1 rfl) ?_
                refine lv_bipush (v := 44) cx.1 cx.2.1 dX12_nextSign_112 (by decide) ?_
                refine lv_icmp_eq (tgt := 123) cx.1 cx.2.1 dX12_nextSign_114 (by decide) (fun c114 => ?_) (fun c114 => ?_)
                · have h := md_ip c114 h
                  exact J123 σ l1 _ _ _ h hw (lv_sub hl [0, 1] rfl)
                · have h := md_in c114 h
                  refine lv_iload_n cx.1 cx.2.1 dX12_nextSign_117 rfl (lv_at hl 1 rfl) ?_
                  refine lv_bipush (v := 59) cx.1 cx.2.1 dX12_nextSign_118 (by decide) ?_
                  refine lv_icmp_ne (tgt := 127) cx.1 cx.2.1 dX12_nextSign_120 (by decide) (fun c120 => ?_) (fun c120 => ?_)
                  · have h := md_in c120 h
                    refine lv_iconst (v := 0) cx.1 cx.2.1 dX12_nextSign_127 (by decide) ?_
                    exact J128 σ l1 0 _ _ _ h hw (lv_sub hl [0, 1] rfl)
                  · have h := md_ip c120 h
                    exact J123 σ l1 _ _ _ h hw (lv_sub hl [0, 1] rfl)
  have J61 : ∀ (σ : md_S) (t0 : Int32) (H : Heap) (locs : List Loc) (ls : Array Slot), f_X12_nextSign_J61 n σ t0 = some p → hp_w D vwCl (hp_Tl cA) E (hp_A (md_pic cA ad σ0) sz) ss H locs (md_pic cA ad σ) → lv_has ls 3 [(0, .ref (ad 137))] → W pp l ee ({ frames := 2, cells := 0, slots := 0, locals := 43 }) ss mm [.ref (ad 137), .int a1].toArray bb mt cd H locs 0 0 (MQ bb (hp_Qv D vwCl (hp_Tl cA) sz (md_pic cA ad σ0) (fun u => u = md_pic cA ad p.2)) [.ref (ad 137), .int a1].toArray ss 0 0 (hp_A (md_pic cA ad σ0) sz)) (F0 mm 61 ls [.int t0, .ref (ad 137)]) := by
    intro σ t0 H locs ls h hw hl
    obtain ⟨σ2, e_σ2, h⟩ := md_ob h
    refine md_pI (k := 11) cx hw hin12c rfl (by decide) rfl (List.mem_cons_of_mem _ mm_53) rfl e_σ2 dX12_nextSign_61 (fun H locs hw => ?_)
    refine lv_aload_n cx.1 cx.2.1 dX12_nextSign_64 rfl (lv_at hl 0 rfl) ?_
    refine lv_dup cx.1 cx.2.1 dX12_nextSign_65 rfl ?_
    refine md_gI (k := 10) cx hw hin12c rfl (by decide) (List.mem_cons_of_mem _ mm_42) dX12_nextSign_66 ?_
    refine lv_iconst (v := 1) cx.1 cx.2.1 dX12_nextSign_69 (by decide) ?_
    refine lv_iadd cx.1 cx.2.1 dX12_nextSign_70 ?_
    obtain ⟨σ3, e_σ3, h⟩ := md_ob h
    refine md_pI (k := 10) cx hw hin12c rfl (by decide) rfl (List.mem_cons_of_mem _ mm_42) rfl e_σ3 dX12_nextSign_71 (fun H locs hw => ?_)
    exact hp_vret cx hw (md_retv h) dX12_nextSign_74
  have J32 : ∀ (σ : md_S) (l1 : Int32) (H : Heap) (locs : List Loc) (ls : Array Slot), f_X12_nextSign_J32 n σ l1 = some p → hp_w D vwCl (hp_Tl cA) E (hp_A (md_pic cA ad σ0) sz) ss H locs (md_pic cA ad σ) → lv_has ls 3 [(0, .ref (ad 137)), (1, .int l1)] → W pp l ee ({ frames := 2, cells := 0, slots := 0, locals := 43 }) ss mm [.ref (ad 137), .int a1].toArray bb mt cd H locs 0 0 (MQ bb (hp_Qv D vwCl (hp_Tl cA) sz (md_pic cA ad σ0) (fun u => u = md_pic cA ad p.2)) [.ref (ad 137), .int a1].toArray ss 0 0 (hp_A (md_pic cA ad σ0) sz)) (F0 mm 32 ls []) := by
    intro σ l1 H locs ls h hw hl
    refine lv_aload_n cx.1 cx.2.1 dX12_nextSign_32 rfl (lv_at hl 0 rfl) ?_
    refine lv_aload_n cx.1 cx.2.1 dX12_nextSign_33 rfl (lv_at hl 0 rfl) ?_
    refine md_gI (k := 10) cx hw hin12c rfl (by decide) (List.mem_cons_of_mem _ mm_42) dX12_nextSign_34 ?_
    obtain ⟨p4, e_p4, h⟩ := md_ob h
    refine hp_callVi (As := [.int (mI σ 10)]) (rest := []) cx hw (km_X12_at l D cA E _ ad hj hE n σ ((mI σ 10)) p4 e_p4) (cwV 1 cx.2.2.2.2.2.1 (md_giV mm_43 mm_44 mm_45 mm_5 mm_46) rfl rfl rfl hd_X12_at ⟨Nat.le_of_ble_eq_true rfl, Nat.le_of_ble_eq_true rfl⟩) md_at0 rfl rfl hl.1 rfl (Nat.le_of_ble_eq_true rfl) dX12_nextSign_37 ⟨Nat.le_refl _, Nat.le_refl _⟩ (fun r u H locs hp hw => ?_)
    obtain ⟨rfl, rfl⟩ := hp
    refine lv_bipush (v := 61) cx.1 cx.2.1 dX12_nextSign_40 (by decide) ?_
    refine lv_icmp_ne (tgt := 75) cx.1 cx.2.1 dX12_nextSign_42 (by decide) (fun c42 => ?_) (fun c42 => ?_)
    · have h := md_in c42 h
      exact J75 p4.2 l1 _ _ _ h hw (lv_sub hl [0, 1] rfl)
    · have h := md_ip c42 h
      refine lv_aload_n cx.1 cx.2.1 dX12_nextSign_45 rfl (lv_at hl 0 rfl) ?_
      refine lv_iload_n cx.1 cx.2.1 dX12_nextSign_46 rfl (lv_at hl 1 rfl) ?_
      refine lv_bipush (v := 58) cx.1 cx.2.1 dX12_nextSign_47 (by decide) ?_
      refine lv_icmp_ne (tgt := 58) cx.1 cx.2.1 dX12_nextSign_49 (by decide) (fun c49 => ?_) (fun c49 => ?_)
      · have h := md_in c49 h
        refine lv_sipush (v := 257) cx.1 cx.2.1 dX12_nextSign_58 (by decide) ?_
        exact J61 p4.2 257 _ _ _ h hw (lv_sub hl [0] rfl)
      · have h := md_ip c49 h
        refine lv_sipush (v := 256) cx.1 cx.2.1 dX12_nextSign_52 (by decide) ?_
        refine lv_goto (tgt := 61) cx.1 cx.2.1 dX12_nextSign_55 (by decide) ?_
        exact J61 p4.2 256 _ _ _ h hw (lv_sub hl [0] rfl)
  refine lv_aload_n cx.1 cx.2.1 dX12_nextSign_0 rfl (lv_at hl 0 rfl) ?_
  refine lv_dup cx.1 cx.2.1 dX12_nextSign_1 rfl ?_
  refine md_gI (k := 10) cx hw hin12c rfl (by decide) (List.mem_cons_of_mem _ mm_42) dX12_nextSign_2 ?_
  refine lv_iconst (v := 1) cx.1 cx.2.1 dX12_nextSign_5 (by decide) ?_
  refine lv_iadd cx.1 cx.2.1 dX12_nextSign_6 ?_
  obtain ⟨σ5, e_σ5, h⟩ := md_ob h
  refine md_pI (k := 10) cx hw hin12c rfl (by decide) rfl (List.mem_cons_of_mem _ mm_42) rfl e_σ5 dX12_nextSign_7 (fun H locs hw => ?_)
  refine lv_aload_n cx.1 cx.2.1 dX12_nextSign_10 rfl (lv_at hl 0 rfl) ?_
  refine lv_iconst (v := 5) cx.1 cx.2.1 dX12_nextSign_11 (by decide) ?_
  obtain ⟨σ6, e_σ6, h⟩ := md_ob h
  refine md_pI (k := 8) cx hw hin12c rfl (by decide) rfl (List.mem_cons_of_mem _ mm_15) rfl e_σ6 dX12_nextSign_12 (fun H locs hw => ?_)
  refine lv_aload_n cx.1 cx.2.1 dX12_nextSign_15 rfl (lv_at hl 0 rfl) ?_
  refine lv_iload_n cx.1 cx.2.1 dX12_nextSign_16 rfl (lv_at hl 1 rfl) ?_
  obtain ⟨σ7, e_σ7, h⟩ := md_ob h
  refine md_pI (k := 11) cx hw hin12c rfl (by decide) rfl (List.mem_cons_of_mem _ mm_53) rfl e_σ7 dX12_nextSign_17 (fun H locs hw => ?_)
  refine lv_iload_n cx.1 cx.2.1 dX12_nextSign_20 rfl (lv_at hl 1 rfl) ?_
  refine lv_bipush (v := 58) cx.1 cx.2.1 dX12_nextSign_21 (by decide) ?_
  refine lv_icmp_eq (tgt := 32) cx.1 cx.2.1 dX12_nextSign_23 (by decide) (fun c23 => ?_) (fun c23 => ?_)
  · have h := md_ip c23 h
    exact J32 σ7 a1 _ _ _ h hw (lv_sub hl [0, 1] rfl)
  · have h := md_in c23 h
    refine lv_iload_n cx.1 cx.2.1 dX12_nextSign_26 rfl (lv_at hl 1 rfl) ?_
    refine lv_bipush (v := 61) cx.1 cx.2.1 dX12_nextSign_27 (by decide) ?_
    refine lv_icmp_ne (tgt := 75) cx.1 cx.2.1 dX12_nextSign_29 (by decide) (fun c29 => ?_) (fun c29 => ?_)
    · have h := md_in c29 h
      exact J75 σ7 a1 _ _ _ h hw (lv_sub hl [0, 1] rfl)
    · have h := md_ip c29 h
      exact J32 σ7 a1 _ _ _ h hw (lv_sub hl [0, 1] rfl)
set_option maxHeartbeats 4000000 in
set_option maxRecDepth 100000 in
theorem km_X12_next (l : Launch) (D : va_G) (cA : Nat → ClassId) (E : hp_N) (sz : Nat) (ad : Nat → Nat) (hj : md_inj ad) (hE : md_E E) (n : Nat) (σ0 : md_S) (p : (Int32 × md_S)) (h : f_X12_next n σ0 = some p) : Met l yX12_next (Cond.code yX12_next cX12_next 3 none :: v_MOD) ({ frames := 7, cells := 0, slots := 0, locals := 176 }) (hp_Pc D vwCl (hp_Tl cA) E sz (md_pic cA ad σ0) [.ref (ad 137)]) (hp_Qv D vwCl (hp_Tl cA) sz (md_pic cA ad σ0) (fun u => u = md_pic cA ad p.2)) 0 0 (hp_A (md_pic cA ad σ0) sz) := by
  refine hp_ofW (cc := cX12_next) (maxL := 3) (ret := none) (by decide) rfl (Nat.le_of_ble_eq_true rfl) ?_
  intro pp ee ss mm bb mt cd ls cx hsz hw hl
  have hl : lv_has ls 3 [(0, .ref (ad 137))] := hl
  refine lv_aload_n cx.1 cx.2.1 dX12_next_0 rfl (lv_at hl 0 rfl) ?_
  obtain ⟨p1, e_p1, h⟩ := md_ob h
  refine hp_callVi (As := []) (rest := []) cx hw (km_X12_isFine l D cA E _ ad hj hE n σ0  p1 e_p1) (cwV 0 cx.2.2.2.2.2.1 (md_giV mm_64 mm_65 mm_66 mm_5 mm_67) rfl rfl rfl hd_X12_isFine ⟨Nat.le_of_ble_eq_true rfl, Nat.le_of_ble_eq_true rfl⟩) md_at0 rfl rfl hl.1 rfl (Nat.le_of_ble_eq_true rfl) dX12_next_1 ⟨Nat.le_refl _, Nat.le_refl _⟩ (fun r u H locs hp hw => ?_)
  obtain ⟨rfl, rfl⟩ := hp
  refine lv_if_ne (tgt := 8) cx.1 cx.2.1 dX12_next_4 (by decide) (fun c4 => ?_) (fun c4 => ?_)
  · have h := md_in c4 h
    refine lv_iconst (v := 1) cx.1 cx.2.1 dX12_next_8 (by decide) ?_
    refine lv_istore_n (lv' := [(1, .int 1), (0, .ref (ad 137))]) cx.1 cx.2.1 dX12_next_9 rfl hl (by decide) rfl (fun ls hl => ?_)
    have L10 : ∀ (j : Nat) (σ : md_S) (l1 : Int32) (q : (md_S × Int32)) (H : Heap) (locs : List Loc) (ls : Array Slot), f_X12_next_L10 n j σ l1 = some q → hp_w D vwCl (hp_Tl cA) E (hp_A (md_pic cA ad σ0) sz) ss H locs (md_pic cA ad σ) → lv_has ls 3 [(0, .ref (ad 137)), (1, .int l1)] → (∀ (H : Heap) (locs : List Loc) (ls : Array Slot), hp_w D vwCl (hp_Tl cA) E (hp_A (md_pic cA ad σ0) sz) ss H locs (md_pic cA ad q.1) → lv_has ls 3 [(0, .ref (ad 137))] → W pp l ee ({ frames := 7, cells := 0, slots := 0, locals := 176 }) ss mm [.ref (ad 137)].toArray bb mt cd H locs 0 0 (MQ bb (hp_Qv D vwCl (hp_Tl cA) sz (md_pic cA ad σ0) (fun u => u = md_pic cA ad p.2)) [.ref (ad 137)].toArray ss 0 0 (hp_A (md_pic cA ad σ0) sz)) (F0 mm 118 ls [])) → W pp l ee ({ frames := 7, cells := 0, slots := 0, locals := 176 }) ss mm [.ref (ad 137)].toArray bb mt cd H locs 0 0 (MQ bb (hp_Qv D vwCl (hp_Tl cA) sz (md_pic cA ad σ0) (fun u => u = md_pic cA ad p.2)) [.ref (ad 137)].toArray ss 0 0 (hp_A (md_pic cA ad σ0) sz)) (F0 mm 10 ls []) := by
      intro j
      induction j with
      | zero => intro σ l1 q H locs ls h; exact nomatch h
      | succ j ih =>
        intro σ l1 q H locs ls h hw hl K
        have J45 : ∀ (σ : md_S) (t0 : Int32) (H : Heap) (locs : List Loc) (ls : Array Slot), f_X12_next_J45 n (f_X12_next_L10 n j) σ t0 = some q → hp_w D vwCl (hp_Tl cA) E (hp_A (md_pic cA ad σ0) sz) ss H locs (md_pic cA ad σ) → lv_has ls 3 [(0, .ref (ad 137))] → W pp l ee ({ frames := 7, cells := 0, slots := 0, locals := 176 }) ss mm [.ref (ad 137)].toArray bb mt cd H locs 0 0 (MQ bb (hp_Qv D vwCl (hp_Tl cA) sz (md_pic cA ad σ0) (fun u => u = md_pic cA ad p.2)) [.ref (ad 137)].toArray ss 0 0 (hp_A (md_pic cA ad σ0) sz)) (F0 mm 45 ls [.int t0]) := by
          intro σ t0 H locs ls h hw hl
          refine lv_istore_n (lv' := [(1, .int t0), (0, .ref (ad 137))]) cx.1 cx.2.1 dX12_next_45 rfl hl (by decide) rfl (fun ls hl => ?_)
          refine lv_aload_n cx.1 cx.2.1 dX12_next_46 rfl (lv_at hl 1 rfl) ?_
          refine lv_aload_n cx.1 cx.2.1 dX12_next_47 rfl (lv_at hl 1 rfl) ?_
          refine md_gI (k := 10) cx hw hin12c rfl (by decide) (List.mem_cons_of_mem _ mm_42) dX12_next_48 ?_
          obtain ⟨p2, e_p2, h⟩ := md_ob h
          refine hp_callVi (As := [.int (mI σ 10)]) (rest := []) cx hw (km_X12_at l D cA E _ ad hj hE n σ ((mI σ 10)) p2 e_p2) (cwV 1 cx.2.2.2.2.2.1 (md_giV mm_43 mm_44 mm_45 mm_5 mm_46) rfl rfl rfl hd_X12_at ⟨Nat.le_of_ble_eq_true rfl, Nat.le_of_ble_eq_true rfl⟩) md_at0 rfl rfl hl.1 rfl (Nat.le_of_ble_eq_true rfl) dX12_next_51 ⟨Nat.le_refl _, Nat.le_refl _⟩ (fun r u H locs hp hw => ?_)
          obtain ⟨rfl, rfl⟩ := hp
          refine lv_bipush (v := 35) cx.1 cx.2.1 dX12_next_54 (by decide) ?_
          refine lv_icmp_ne (tgt := 101) cx.1 cx.2.1 dX12_next_56 (by decide) (fun c56 => ?_) (fun c56 => ?_)
          · have h := md_in c56 h
            refine lv_iload_n cx.1 cx.2.1 dX12_next_101 rfl (lv_at hl 0 rfl) ?_
            refine lv_if_eq (tgt := 10) cx.1 cx.2.1 dX12_next_102 (by decide) (fun c102 => ?_) (fun c102 => ?_)
            · have h := md_ip c102 h
              exact ih p2.2 t0 q _ _ _ h hw (lv_sub hl [1, 0] rfl) K
            · have h := md_in c102 h
              refine lv_aload_n cx.1 cx.2.1 dX12_next_105 rfl (lv_at hl 1 rfl) ?_
              refine lv_dup cx.1 cx.2.1 dX12_next_106 rfl ?_
              refine md_gI (k := 10) cx hw hin12c rfl (by decide) (List.mem_cons_of_mem _ mm_42) dX12_next_107 ?_
              refine lv_iconst (v := 1) cx.1 cx.2.1 dX12_next_110 (by decide) ?_
              refine lv_iadd cx.1 cx.2.1 dX12_next_111 ?_
              obtain ⟨σ3, e_σ3, h⟩ := md_ob h
              refine md_pI (k := 10) cx hw hin12c rfl (by decide) rfl (List.mem_cons_of_mem _ mm_42) rfl e_σ3 dX12_next_112 (fun H locs hw => ?_)
              refine lv_goto (tgt := 10) cx.1 cx.2.1 dX12_next_115 (by decide) ?_
              exact ih σ3 t0 q _ _ _ h hw (lv_sub hl [1, 0] rfl) K
          · have h := md_ip c56 h
            have L59 : ∀ (j : Nat) (σ : md_S) (q : (md_S)) (H : Heap) (locs : List Loc) (ls : Array Slot), f_X12_next_L59 n j σ = some q → hp_w D vwCl (hp_Tl cA) E (hp_A (md_pic cA ad σ0) sz) ss H locs (md_pic cA ad σ) → lv_has ls 3 [(0, .ref (ad 137))] → (∀ (H : Heap) (locs : List Loc) (ls : Array Slot), hp_w D vwCl (hp_Tl cA) E (hp_A (md_pic cA ad σ0) sz) ss H locs (md_pic cA ad q) → lv_has ls 3 [(0, .ref (ad 137))] → W pp l ee ({ frames := 7, cells := 0, slots := 0, locals := 176 }) ss mm [.ref (ad 137)].toArray bb mt cd H locs 0 0 (MQ bb (hp_Qv D vwCl (hp_Tl cA) sz (md_pic cA ad σ0) (fun u => u = md_pic cA ad p.2)) [.ref (ad 137)].toArray ss 0 0 (hp_A (md_pic cA ad σ0) sz)) (F0 mm 96 ls [])) → W pp l ee ({ frames := 7, cells := 0, slots := 0, locals := 176 }) ss mm [.ref (ad 137)].toArray bb mt cd H locs 0 0 (MQ bb (hp_Qv D vwCl (hp_Tl cA) sz (md_pic cA ad σ0) (fun u => u = md_pic cA ad p.2)) [.ref (ad 137)].toArray ss 0 0 (hp_A (md_pic cA ad σ0) sz)) (F0 mm 59 ls []) := by
              intro j
              induction j with
              | zero => intro σ q H locs ls h; exact nomatch h
              | succ j ih =>
                intro σ q H locs ls h hw hl K
                refine lv_aload_n cx.1 cx.2.1 dX12_next_59 rfl (lv_at hl 0 rfl) ?_
                refine md_gI (k := 10) cx hw hin12c rfl (by decide) (List.mem_cons_of_mem _ mm_42) dX12_next_60 ?_
                refine lv_aload_n cx.1 cx.2.1 dX12_next_63 rfl (lv_at hl 0 rfl) ?_
                refine md_gI (k := 4) cx hw hin12c rfl (by decide) (List.mem_cons_of_mem _ mm_7) dX12_next_64 ?_
                refine lv_icmp_ge (tgt := 96) cx.1 cx.2.1 dX12_next_67 (by decide) (fun c67 => ?_) (fun c67 => ?_)
                · have h := md_ip c67 h
                  obtain rfl := Option.some.inj h
                  exact K _ _ _ hw (lv_sub hl [0] rfl)
                · have h := md_in c67 h
                  refine lv_aload_n cx.1 cx.2.1 dX12_next_70 rfl (lv_at hl 0 rfl) ?_
                  refine lv_aload_n cx.1 cx.2.1 dX12_next_71 rfl (lv_at hl 0 rfl) ?_
                  refine md_gI (k := 10) cx hw hin12c rfl (by decide) (List.mem_cons_of_mem _ mm_42) dX12_next_72 ?_
                  obtain ⟨p4, e_p4, h⟩ := md_ob h
                  refine hp_callVi (As := [.int (mI σ 10)]) (rest := []) cx hw (km_X12_at l D cA E _ ad hj hE n σ ((mI σ 10)) p4 e_p4) (cwV 1 cx.2.2.2.2.2.1 (md_giV mm_43 mm_44 mm_45 mm_5 mm_46) rfl rfl rfl hd_X12_at ⟨Nat.le_of_ble_eq_true rfl, Nat.le_of_ble_eq_true rfl⟩) md_at0 rfl rfl hl.1 rfl (Nat.le_of_ble_eq_true rfl) dX12_next_75 ⟨Nat.le_refl _, Nat.le_refl _⟩ (fun r u H locs hp hw => ?_)
                  obtain ⟨rfl, rfl⟩ := hp
                  refine lv_bipush (v := 10) cx.1 cx.2.1 dX12_next_78 (by decide) ?_
                  refine lv_icmp_eq (tgt := 96) cx.1 cx.2.1 dX12_next_80 (by decide) (fun c80 => ?_) (fun c80 => ?_)
                  · have h := md_ip c80 h
                    obtain rfl := Option.some.inj h
                    exact K _ _ _ hw (lv_sub hl [0] rfl)
                  · have h := md_in c80 h
                    refine lv_aload_n cx.1 cx.2.1 dX12_next_83 rfl (lv_at hl 0 rfl) ?_
                    refine lv_dup cx.1 cx.2.1 dX12_next_84 rfl ?_
                    refine md_gI (k := 10) cx hw hin12c rfl (by decide) (List.mem_cons_of_mem _ mm_42) dX12_next_85 ?_
                    refine lv_iconst (v := 1) cx.1 cx.2.1 dX12_next_88 (by decide) ?_
                    refine lv_iadd cx.1 cx.2.1 dX12_next_89 ?_
                    obtain ⟨σ5, e_σ5, h⟩ := md_ob h
                    refine md_pI (k := 10) cx hw hin12c rfl (by decide) rfl (List.mem_cons_of_mem _ mm_42) rfl e_σ5 dX12_next_90 (fun H locs hw => ?_)
                    refine lv_goto (tgt := 59) cx.1 cx.2.1 dX12_next_93 (by decide) ?_
                    exact ih σ5 q _ _ _ h hw (lv_sub hl [0] rfl) K
            obtain ⟨q6, e_q6, h⟩ := md_ob h
            refine L59 n p2.2 q6 _ _ _ e_q6 hw (lv_sub hl [1] rfl) (fun H locs ls hw hl => ?_)
            refine lv_iconst (v := 1) cx.1 cx.2.1 dX12_next_96 (by decide) ?_
            refine lv_istore_n (lv' := [(1, .int 1), (0, .ref (ad 137))]) cx.1 cx.2.1 dX12_next_97 rfl hl (by decide) rfl (fun ls hl => ?_)
            refine lv_goto (tgt := 10) cx.1 cx.2.1 dX12_next_98 (by decide) ?_
            exact ih q6 1 q _ _ _ h hw (lv_sub hl [1, 0] rfl) K
        have J40 : ∀ (σ : md_S) (H : Heap) (locs : List Loc) (ls : Array Slot), f_X12_next_J40 n (f_X12_next_L10 n j) σ = some q → hp_w D vwCl (hp_Tl cA) E (hp_A (md_pic cA ad σ0) sz) ss H locs (md_pic cA ad σ) → lv_has ls 3 [(0, .ref (ad 137))] → W pp l ee ({ frames := 7, cells := 0, slots := 0, locals := 176 }) ss mm [.ref (ad 137)].toArray bb mt cd H locs 0 0 (MQ bb (hp_Qv D vwCl (hp_Tl cA) sz (md_pic cA ad σ0) (fun u => u = md_pic cA ad p.2)) [.ref (ad 137)].toArray ss 0 0 (hp_A (md_pic cA ad σ0) sz)) (F0 mm 40 ls []) := by
          intro σ H locs ls h hw hl
          refine lv_iconst (v := 1) cx.1 cx.2.1 dX12_next_40 (by decide) ?_
          refine lv_goto (tgt := 45) cx.1 cx.2.1 dX12_next_41 (by decide) ?_
          exact J45 σ 1 _ _ _ h hw (lv_sub hl [0] rfl)
        refine lv_iload_n cx.1 cx.2.1 dX12_next_10 rfl (lv_at hl 1 rfl) ?_
        refine lv_if_eq (tgt := 118) cx.1 cx.2.1 dX12_next_11 (by decide) (fun c11 => ?_) (fun c11 => ?_)
        · have h := md_ip c11 h
          obtain rfl := Option.some.inj h
          exact K _ _ _ hw (lv_sub hl [0] rfl)
        · have h := md_in c11 h
          refine lv_aload_n cx.1 cx.2.1 dX12_next_14 rfl (lv_at hl 0 rfl) ?_
          refine lv_aload_n cx.1 cx.2.1 dX12_next_15 rfl (lv_at hl 0 rfl) ?_
          refine md_gI (k := 10) cx hw hin12c rfl (by decide) (List.mem_cons_of_mem _ mm_42) dX12_next_16 ?_
          obtain ⟨p7, e_p7, h⟩ := md_ob h
          refine hp_callVi (As := [.int (mI σ 10)]) (rest := []) cx hw (km_X12_at l D cA E _ ad hj hE n σ ((mI σ 10)) p7 e_p7) (cwV 1 cx.2.2.2.2.2.1 (md_giV mm_43 mm_44 mm_45 mm_5 mm_46) rfl rfl rfl hd_X12_at ⟨Nat.le_of_ble_eq_true rfl, Nat.le_of_ble_eq_true rfl⟩) md_at0 rfl rfl hl.1 rfl (Nat.le_of_ble_eq_true rfl) dX12_next_19 ⟨Nat.le_refl _, Nat.le_refl _⟩ (fun r u H locs hp hw => ?_)
          obtain ⟨rfl, rfl⟩ := hp
          refine lv_bipush (v := 32) cx.1 cx.2.1 dX12_next_22 (by decide) ?_
          refine lv_icmp_eq (tgt := 40) cx.1 cx.2.1 dX12_next_24 (by decide) (fun c24 => ?_) (fun c24 => ?_)
          · have h := md_ip c24 h
            exact J40 p7.2 _ _ _ h hw (lv_sub hl [0] rfl)
          · have h := md_in c24 h
            refine lv_aload_n cx.1 cx.2.1 dX12_next_27 rfl (lv_at hl 0 rfl) ?_
            refine lv_aload_n cx.1 cx.2.1 dX12_next_28 rfl (lv_at hl 0 rfl) ?_
            refine md_gI (k := 10) cx hw hin12c rfl (by decide) (List.mem_cons_of_mem _ mm_42) dX12_next_29 ?_
            obtain ⟨p8, e_p8, h⟩ := md_ob h
            refine hp_callVi (As := [.int (mI p7.2 10)]) (rest := []) cx hw (km_X12_at l D cA E _ ad hj hE n p7.2 ((mI p7.2 10)) p8 e_p8) (cwV 1 cx.2.2.2.2.2.1 (md_giV mm_43 mm_44 mm_45 mm_5 mm_46) rfl rfl rfl hd_X12_at ⟨Nat.le_of_ble_eq_true rfl, Nat.le_of_ble_eq_true rfl⟩) md_at0 rfl rfl hl.1 rfl (Nat.le_of_ble_eq_true rfl) dX12_next_32 ⟨Nat.le_refl _, Nat.le_refl _⟩ (fun r u H locs hp hw => ?_)
            obtain ⟨rfl, rfl⟩ := hp
            refine lv_bipush (v := 10) cx.1 cx.2.1 dX12_next_35 (by decide) ?_
            refine lv_icmp_ne (tgt := 44) cx.1 cx.2.1 dX12_next_37 (by decide) (fun c37 => ?_) (fun c37 => ?_)
            · have h := md_in c37 h
              refine lv_iconst (v := 0) cx.1 cx.2.1 dX12_next_44 (by decide) ?_
              exact J45 p8.2 0 _ _ _ h hw (lv_sub hl [0] rfl)
            · have h := md_ip c37 h
              exact J40 p8.2 _ _ _ h hw (lv_sub hl [0] rfl)
    obtain ⟨q9, e_q9, h⟩ := md_ob h
    refine L10 n p1.2 1 q9 _ _ _ e_q9 hw (lv_sub hl [1, 0] rfl) (fun H locs ls hw hl => ?_)
    refine lv_aload_n cx.1 cx.2.1 dX12_next_118 rfl (lv_at hl 0 rfl) ?_
    refine lv_aload_n cx.1 cx.2.1 dX12_next_119 rfl (lv_at hl 0 rfl) ?_
    refine md_gI (k := 10) cx hw hin12c rfl (by decide) (List.mem_cons_of_mem _ mm_42) dX12_next_120 ?_
    obtain ⟨σ10, e_σ10, h⟩ := md_ob h
    refine md_pI (k := 9) cx hw hin12c rfl (by decide) rfl (List.mem_cons_of_mem _ mm_16) rfl e_σ10 dX12_next_123 (fun H locs hw => ?_)
    refine lv_aload_n cx.1 cx.2.1 dX12_next_126 rfl (lv_at hl 0 rfl) ?_
    refine lv_aload_n cx.1 cx.2.1 dX12_next_127 rfl (lv_at hl 0 rfl) ?_
    refine md_gI (k := 10) cx hw hin12c rfl (by decide) (List.mem_cons_of_mem _ mm_42) dX12_next_128 ?_
    obtain ⟨p11, e_p11, h⟩ := md_ob h
    refine hp_callVi (As := [.int (mI σ10 10)]) (rest := []) cx hw (km_X12_at l D cA E _ ad hj hE n σ10 ((mI σ10 10)) p11 e_p11) (cwV 1 cx.2.2.2.2.2.1 (md_giV mm_43 mm_44 mm_45 mm_5 mm_46) rfl rfl rfl hd_X12_at ⟨Nat.le_of_ble_eq_true rfl, Nat.le_of_ble_eq_true rfl⟩) md_at0 rfl rfl hl.1 rfl (Nat.le_of_ble_eq_true rfl) dX12_next_131 ⟨Nat.le_refl _, Nat.le_refl _⟩ (fun r u H locs hp hw => ?_)
    obtain ⟨rfl, rfl⟩ := hp
    refine lv_istore_n (lv' := [(2, .int p11.1), (0, .ref (ad 137))]) cx.1 cx.2.1 dX12_next_134 rfl hl (by decide) rfl (fun ls hl => ?_)
    refine lv_iload_n cx.1 cx.2.1 dX12_next_135 rfl (lv_at hl 0 rfl) ?_
    refine lv_iconst (v := (-1)) cx.1 cx.2.1 dX12_next_136 (by decide) ?_
    refine lv_icmp_ne (tgt := 148) cx.1 cx.2.1 dX12_next_137 (by decide) (fun c137 => ?_) (fun c137 => ?_)
    · have h := md_in c137 h
      refine lv_iload_n cx.1 cx.2.1 dX12_next_148 rfl (lv_at hl 0 rfl) ?_
      obtain ⟨p12, e_p12, h⟩ := md_ob h
      refine hp_callSi (As := [.int p11.1]) (rest := []) cx hw (km_X12_isLetter l D cA E _ ad hj hE n p11.2 (p11.1) p12 e_p12) (cwS 1 cx.2.2.2.2.2.1 (md_giS mm_21 mm_22 mm_5 mm_23) rfl rfl rfl hd_X12_isLetter ⟨Nat.le_of_ble_eq_true rfl, Nat.le_of_ble_eq_true rfl⟩) rfl hl.1 rfl (Nat.le_of_ble_eq_true rfl) dX12_next_149 ⟨Nat.le_refl _, Nat.le_refl _⟩ (fun r u H locs hp hw => ?_)
      obtain ⟨rfl, rfl⟩ := hp
      refine lv_if_eq (tgt := 162) cx.1 cx.2.1 dX12_next_152 (by decide) (fun c152 => ?_) (fun c152 => ?_)
      · have h := md_ip c152 h
        refine lv_iload_n cx.1 cx.2.1 dX12_next_162 rfl (lv_at hl 0 rfl) ?_
        obtain ⟨p13, e_p13, h⟩ := md_ob h
        refine hp_callSi (As := [.int p11.1]) (rest := []) cx hw (km_X12_isDigit l D cA E _ ad hj hE n p12.2 (p11.1) p13 e_p13) (cwS 1 cx.2.2.2.2.2.1 (md_giS mm_47 mm_48 mm_5 mm_49) rfl rfl rfl hd_X12_isDigit ⟨Nat.le_of_ble_eq_true rfl, Nat.le_of_ble_eq_true rfl⟩) rfl hl.1 rfl (Nat.le_of_ble_eq_true rfl) dX12_next_163 ⟨Nat.le_refl _, Nat.le_refl _⟩ (fun r u H locs hp hw => ?_)
        obtain ⟨rfl, rfl⟩ := hp
        refine lv_if_eq (tgt := 176) cx.1 cx.2.1 dX12_next_166 (by decide) (fun c166 => ?_) (fun c166 => ?_)
        · have h := md_ip c166 h
          refine lv_iload_n cx.1 cx.2.1 dX12_next_176 rfl (lv_at hl 0 rfl) ?_
          refine lv_bipush (v := 47) cx.1 cx.2.1 dX12_next_177 (by decide) ?_
          refine lv_icmp_ne (tgt := 189) cx.1 cx.2.1 dX12_next_179 (by decide) (fun c179 => ?_) (fun c179 => ?_)
          · have h := md_in c179 h
            refine lv_aload_n cx.1 cx.2.1 dX12_next_189 rfl (lv_at hl 1 rfl) ?_
            refine lv_iload_n cx.1 cx.2.1 dX12_next_190 rfl (lv_at hl 0 rfl) ?_
            obtain ⟨p14, e_p14, h⟩ := md_ob h
            refine hp_callVv (As := [.int p11.1]) (rest := []) cx hw (km_X12_nextSign l D cA E _ ad hj hE n p13.2 (p11.1) p14 e_p14) (cwV 1 cx.2.2.2.2.2.1 (md_giV mm_68 mm_69 mm_70 mm_5 mm_71) rfl rfl rfl hd_X12_nextSign ⟨Nat.le_of_ble_eq_true rfl, Nat.le_of_ble_eq_true rfl⟩) md_at0 rfl rfl hl.1 rfl (Nat.le_of_ble_eq_true rfl) dX12_next_191 ⟨Nat.le_refl _, Nat.le_refl _⟩ (fun u H locs hp hw => ?_)
            obtain rfl := hp
            exact hp_vret cx hw (md_retv h) dX12_next_194
          · have h := md_ip c179 h
            refine lv_aload_n cx.1 cx.2.1 dX12_next_182 rfl (lv_at hl 1 rfl) ?_
            obtain ⟨p15, e_p15, h⟩ := md_ob h
            refine hp_callVv (As := []) (rest := []) cx hw (km_X12_nextPattern l D cA E _ ad hj hE n p13.2  p15 e_p15) (cwV 0 cx.2.2.2.2.2.1 (md_giV mm_72 mm_73 mm_74 mm_5 mm_75) rfl rfl rfl hd_X12_nextPattern ⟨Nat.le_of_ble_eq_true rfl, Nat.le_of_ble_eq_true rfl⟩) md_at0 rfl rfl hl.1 rfl (Nat.le_of_ble_eq_true rfl) dX12_next_183 ⟨Nat.le_refl _, Nat.le_refl _⟩ (fun u H locs hp hw => ?_)
            obtain rfl := hp
            refine lv_goto (tgt := 194) cx.1 cx.2.1 dX12_next_186 (by decide) ?_
            exact hp_vret cx hw (md_retv h) dX12_next_194
        · have h := md_in c166 h
          refine lv_aload_n cx.1 cx.2.1 dX12_next_169 rfl (lv_at hl 1 rfl) ?_
          obtain ⟨p16, e_p16, h⟩ := md_ob h
          refine hp_callVv (As := []) (rest := []) cx hw (km_X12_nextNumber l D cA E _ ad hj hE n p13.2  p16 e_p16) (cwV 0 cx.2.2.2.2.2.1 (md_giV mm_76 mm_77 mm_78 mm_5 mm_79) rfl rfl rfl hd_X12_nextNumber ⟨Nat.le_of_ble_eq_true rfl, Nat.le_of_ble_eq_true rfl⟩) md_at0 rfl rfl hl.1 rfl (Nat.le_of_ble_eq_true rfl) dX12_next_170 ⟨Nat.le_refl _, Nat.le_refl _⟩ (fun u H locs hp hw => ?_)
          obtain rfl := hp
          refine lv_goto (tgt := 194) cx.1 cx.2.1 dX12_next_173 (by decide) ?_
          exact hp_vret cx hw (md_retv h) dX12_next_194
      · have h := md_in c152 h
        refine lv_aload_n cx.1 cx.2.1 dX12_next_155 rfl (lv_at hl 1 rfl) ?_
        obtain ⟨p17, e_p17, h⟩ := md_ob h
        refine hp_callVv (As := []) (rest := []) cx hw (km_X12_nextName l D cA E _ ad hj hE n p12.2  p17 e_p17) (cwV 0 cx.2.2.2.2.2.1 (md_giV mm_80 mm_81 mm_82 mm_5 mm_83) rfl rfl rfl hd_X12_nextName ⟨Nat.le_of_ble_eq_true rfl, Nat.le_of_ble_eq_true rfl⟩) md_at0 rfl rfl hl.1 rfl (Nat.le_of_ble_eq_true rfl) dX12_next_156 ⟨Nat.le_refl _, Nat.le_refl _⟩ (fun u H locs hp hw => ?_)
        obtain rfl := hp
        refine lv_goto (tgt := 194) cx.1 cx.2.1 dX12_next_159 (by decide) ?_
        exact hp_vret cx hw (md_retv h) dX12_next_194
    · have h := md_ip c137 h
      refine lv_aload_n cx.1 cx.2.1 dX12_next_140 rfl (lv_at hl 1 rfl) ?_
      refine lv_iconst (v := 0) cx.1 cx.2.1 dX12_next_141 (by decide) ?_
      obtain ⟨σ18, e_σ18, h⟩ := md_ob h
      refine md_pI (k := 8) cx hw hin12c rfl (by decide) rfl (List.mem_cons_of_mem _ mm_15) rfl e_σ18 dX12_next_142 (fun H locs hw => ?_)
      refine lv_goto (tgt := 194) cx.1 cx.2.1 dX12_next_145 (by decide) ?_
      exact hp_vret cx hw (md_retv h) dX12_next_194
  · have h := md_ip c4 h
    exact hp_vret cx hw (md_retv h) dX12_next_7
