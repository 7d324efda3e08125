set_option maxHeartbeats 4000000 in
set_option maxRecDepth 100000 in
theorem km_X12_closes (l : Launch) (D : va_G) (cA : Nat → ClassId) (E : hp_N) (sz : Nat) (ad : Nat → Nat) (hj : md_inj ad) (hE : md_E E) (n : Nat) (σ0 : md_S) (a1 : Int32) (p : (Int32 × md_S)) (h : f_X12_closes n σ0 a1 = some p) : Met l yX12_closes (Cond.code yX12_closes cX12_closes 4 none :: v_MOD) ({ frames := 2, cells := 0, slots := 0, locals := 47 }) (hp_Pc D vwCl (hp_Tl cA) E sz (md_pic cA ad σ0) [.ref (ad 137), .int a1]) (hp_Qv D vwCl (hp_Tl cA) sz (md_pic cA ad σ0) (fun u => u = md_pic cA ad p.2)) 0 0 (hp_A (md_pic cA ad σ0) sz) := by
  refine hp_ofW (cc := cX12_closes) (maxL := 4) (ret := none) (by decide) rfl (Nat.le_of_ble_eq_true rfl) ?_
  intro pp ee ss mm bb mt cd ls cx hsz hw hl
  have hl : lv_has ls 4 [(0, .ref (ad 137)), (1, .int a1)] := hl
  refine lv_aload_n cx.1 cx.2.1 dX12_closes_0 rfl (lv_at hl 0 rfl) ?_
  refine md_gR (k := 120) cx hw hin12c (by decide) (by decide) (List.mem_cons_of_mem _ mm_540) dX12_closes_1 ?_
  refine lv_aload_n cx.1 cx.2.1 dX12_closes_4 rfl (lv_at hl 0 rfl) ?_
  refine md_gI (k := 127) cx hw hin12c rfl (by decide) (List.mem_cons_of_mem _ mm_538) dX12_closes_5 ?_
  refine lv_dup2_11 cx.1 cx.2.1 dX12_closes_8 rfl rfl ?_
  obtain ⟨v1, e_v1, h⟩ := md_ob h
  refine md_lI (k := 120) hj cx hw (by decide) rfl rfl rfl e_v1 dX12_closes_9 ?_
  refine lv_aload_n cx.1 cx.2.1 dX12_closes_10 rfl (lv_at hl 0 rfl) ?_
  refine md_gR (k := 44) cx hw hin12c (by decide) (by decide) (List.mem_cons_of_mem _ mm_246) dX12_closes_11 ?_
  refine lv_iload_n cx.1 cx.2.1 dX12_closes_14 rfl (lv_at hl 1 rfl) ?_
  obtain ⟨v2, e_v2, h⟩ := md_ob h
  refine md_lI (k := 44) hj cx hw (by decide) rfl rfl rfl e_v2 dX12_closes_15 ?_
  refine lv_isub cx.1 cx.2.1 dX12_closes_16 ?_
  obtain ⟨σ3, e_σ3, h⟩ := md_ob h
  refine md_sI (k := 120) hj cx hw (by decide) rfl rfl rfl e_σ3 dX12_closes_17 (fun H locs hw => ?_)
  refine lv_aload_n cx.1 cx.2.1 dX12_closes_18 rfl (lv_at hl 0 rfl) ?_
  refine md_gI (k := 95) cx hw hin12c rfl (by decide) (List.mem_cons_of_mem _ mm_594) dX12_closes_19 ?_
  refine lv_sipush (v := 2000) cx.1 cx.2.1 dX12_closes_22 (by decide) ?_
  refine lv_icmp_ne (tgt := 35) cx.1 cx.2.1 dX12_closes_25 (by decide) (fun c25 => ?_) (fun c25 => ?_)
  · have h := md_in c25 h
    refine lv_aload_n cx.1 cx.2.1 dX12_closes_35 rfl (lv_at hl 0 rfl) ?_
    refine lv_iload_n cx.1 cx.2.1 dX12_closes_36 rfl (lv_at hl 1 rfl) ?_
    refine lv_aload_n cx.1 cx.2.1 dX12_closes_37 rfl (lv_at hl 0 rfl) ?_
    refine md_gR (k := 44) cx hw hin12c (by decide) (by decide) (List.mem_cons_of_mem _ mm_246) dX12_closes_38 ?_
    refine lv_iload_n cx.1 cx.2.1 dX12_closes_41 rfl (lv_at hl 1 rfl) ?_
    obtain ⟨v4, e_v4, h⟩ := md_ob h
    refine md_lI (k := 44) hj cx hw (by decide) rfl rfl rfl e_v4 dX12_closes_42 ?_
    obtain ⟨p5, e_p5, h⟩ := md_ob h
    refine hp_callVi (As := [.int a1, .int v4]) (rest := []) cx hw (km_X12_newThing l D cA E _ ad hj hE n σ3 a1 v4 p5 e_p5) (cwV 2 cx.2.2.2.2.2.1 (md_giV mm_599 mm_600 mm_601 mm_5 mm_602) rfl rfl rfl hd_X12_newThing ⟨Nat.le_of_ble_eq_true rfl, Nat.le_of_ble_eq_true rfl⟩) md_at0 rfl rfl hl.1 rfl (Nat.le_of_ble_eq_true rfl) dX12_closes_43 ⟨Nat.le_refl _, Nat.le_refl _⟩ (fun r u H locs hp hw => ?_)
    obtain ⟨rfl, rfl⟩ := hp
    refine lv_istore_n (lv' := [(2, .int p5.1), (0, .ref (ad 137)), (1, .int a1)]) cx.1 cx.2.1 dX12_closes_46 rfl hl (by decide) rfl (fun ls hl => ?_)
    refine lv_iconst (v := 0) cx.1 cx.2.1 dX12_closes_47 (by decide) ?_
    refine lv_istore_n (lv' := [(3, .int 0), (2, .int p5.1), (0, .ref (ad 137)), (1, .int a1)]) cx.1 cx.2.1 dX12_closes_48 rfl hl (by decide) rfl (fun ls hl => ?_)
    have L49 : ∀ (j : Nat) (σ : md_S) (l1 : Int32) (l2 : Int32) (l3 : Int32) (q : (md_S × Int32)) (H : Heap) (locs : List Loc) (ls : Array Slot), f_X12_closes_L49 n l1 l2 j σ l3 = some q → hp_w D vwCl (hp_Tl cA) E (hp_A (md_pic cA ad σ0) sz) ss H locs (md_pic cA ad σ) → lv_has ls 4 [(0, .ref (ad 137)), (1, .int l1), (2, .int l2), (3, .int l3)] → (∀ (H : Heap) (locs : List Loc) (ls : Array Slot), hp_w D vwCl (hp_Tl cA) E (hp_A (md_pic cA ad σ0) sz) ss H locs (md_pic cA ad q.1) → lv_has ls 4 [(0, .ref (ad 137)), (2, .int l2)] → W pp l ee ({ frames := 2, cells := 0, slots := 0, locals := 47 }) ss mm [.ref (ad 137), .int a1].toArray bb mt cd H locs 0 0 (MQ bb (hp_Qv D vwCl (hp_Tl cA) sz (md_pic cA ad σ0) (fun u => u = md_pic cA ad p.2)) [.ref (ad 137), .int a1].toArray ss 0 0 (hp_A (md_pic cA ad σ0) sz)) (F0 mm 141 ls [])) → W pp l ee ({ frames := 2, cells := 0, slots := 0, locals := 47 }) ss mm [.ref (ad 137), .int a1].toArray bb mt cd H locs 0 0 (MQ bb (hp_Qv D vwCl (hp_Tl cA) sz (md_pic cA ad σ0) (fun u => u = md_pic cA ad p.2)) [.ref (ad 137), .int a1].toArray ss 0 0 (hp_A (md_pic cA ad σ0) sz)) (F0 mm 49 ls []) := by
      intro j
      induction j with
      | zero => intro σ l1 l2 l3 q H locs ls h; exact nomatch h
      | succ j ih =>
        intro σ l1 l2 l3 q H locs ls h hw hl K
        refine lv_iload_n cx.1 cx.2.1 dX12_closes_49 rfl (lv_at hl 3 rfl) ?_
        refine lv_aload_n cx.1 cx.2.1 dX12_closes_50 rfl (lv_at hl 0 rfl) ?_
        refine md_gR (k := 44) cx hw hin12c (by decide) (by decide) (List.mem_cons_of_mem _ mm_246) dX12_closes_51 ?_
        refine lv_iload_n cx.1 cx.2.1 dX12_closes_54 rfl (lv_at hl 1 rfl) ?_
        obtain ⟨v6, e_v6, h⟩ := md_ob h
        refine md_lI (k := 44) hj cx hw (by decide) rfl rfl rfl e_v6 dX12_closes_55 ?_
        refine lv_icmp_ge (tgt := 141) cx.1 cx.2.1 dX12_closes_56 (by decide) (fun c56 => ?_) (fun c56 => ?_)
        · have h := md_ip c56 h
          obtain rfl := Option.some.inj h
          exact K _ _ _ hw (lv_sub hl [0, 2] rfl)
        · have h := md_in c56 h
          refine lv_aload_n cx.1 cx.2.1 dX12_closes_59 rfl (lv_at hl 0 rfl) ?_
          refine md_gR (k := 99) cx hw hin12c (by decide) (by decide) (List.mem_cons_of_mem _ mm_597) dX12_closes_60 ?_
          refine lv_aload_n cx.1 cx.2.1 dX12_closes_63 rfl (lv_at hl 0 rfl) ?_
          refine md_gR (k := 97) cx hw hin12c (by decide) (by decide) (List.mem_cons_of_mem _ mm_595) dX12_closes_64 ?_
          refine lv_iload_n cx.1 cx.2.1 dX12_closes_67 rfl (lv_at hl 2 rfl) ?_
          obtain ⟨v7, e_v7, h⟩ := md_ob h
          refine md_lI (k := 97) hj cx hw (by decide) rfl rfl rfl e_v7 dX12_closes_68 ?_
          refine lv_iload_n cx.1 cx.2.1 dX12_closes_69 rfl (lv_at hl 3 rfl) ?_
          refine lv_iadd cx.1 cx.2.1 dX12_closes_70 ?_
          refine lv_aload_n cx.1 cx.2.1 dX12_closes_71 rfl (lv_at hl 0 rfl) ?_
          refine md_gR (k := 121) cx hw hin12c (by decide) (by decide) (List.mem_cons_of_mem _ mm_541) dX12_closes_72 ?_
          refine lv_sipush (v := 9000) cx.1 cx.2.1 dX12_closes_75 (by decide) ?_
          refine lv_aload_n cx.1 cx.2.1 dX12_closes_78 rfl (lv_at hl 0 rfl) ?_
          refine md_gI (k := 127) cx hw hin12c rfl (by decide) (List.mem_cons_of_mem _ mm_538) dX12_closes_79 ?_
          refine lv_imul cx.1 cx.2.1 dX12_closes_82 ?_
          refine lv_aload_n cx.1 cx.2.1 dX12_closes_83 rfl (lv_at hl 0 rfl) ?_
          refine md_gR (k := 120) cx hw hin12c (by decide) (by decide) (List.mem_cons_of_mem _ mm_540) dX12_closes_84 ?_
          refine lv_aload_n cx.1 cx.2.1 dX12_closes_87 rfl (lv_at hl 0 rfl) ?_
          refine md_gI (k := 127) cx hw hin12c rfl (by decide) (List.mem_cons_of_mem _ mm_538) dX12_closes_88 ?_
          obtain ⟨v8, e_v8, h⟩ := md_ob h
          refine md_lI (k := 120) hj cx hw (by decide) rfl rfl rfl e_v8 dX12_closes_91 ?_
          refine lv_iadd cx.1 cx.2.1 dX12_closes_92 ?_
          refine lv_iload_n cx.1 cx.2.1 dX12_closes_93 rfl (lv_at hl 3 rfl) ?_
          refine lv_iadd cx.1 cx.2.1 dX12_closes_94 ?_
          obtain ⟨v9, e_v9, h⟩ := md_ob h
          refine md_lI (k := 121) hj cx hw (by decide) rfl rfl rfl e_v9 dX12_closes_95 ?_
          obtain ⟨σ10, e_σ10, h⟩ := md_ob h
          refine md_sI (k := 99) hj cx hw (by decide) rfl rfl rfl e_σ10 dX12_closes_96 (fun H locs hw => ?_)
          refine lv_aload_n cx.1 cx.2.1 dX12_closes_97 rfl (lv_at hl 0 rfl) ?_
          refine md_gR (k := 100) cx hw hin12c (by decide) (by decide) (List.mem_cons_of_mem _ mm_598) dX12_closes_98 ?_
          refine lv_aload_n cx.1 cx.2.1 dX12_closes_101 rfl (lv_at hl 0 rfl) ?_
          refine md_gR (k := 97) cx hw hin12c (by decide) (by decide) (List.mem_cons_of_mem _ mm_595) dX12_closes_102 ?_
          refine lv_iload_n cx.1 cx.2.1 dX12_closes_105 rfl (lv_at hl 2 rfl) ?_
          obtain ⟨v11, e_v11, h⟩ := md_ob h
          refine md_lI (k := 97) hj cx hw (by decide) rfl rfl rfl e_v11 dX12_closes_106 ?_
          refine lv_iload_n cx.1 cx.2.1 dX12_closes_107 rfl (lv_at hl 3 rfl) ?_
          refine lv_iadd cx.1 cx.2.1 dX12_closes_108 ?_
          refine lv_aload_n cx.1 cx.2.1 dX12_closes_109 rfl (lv_at hl 0 rfl) ?_
          refine md_gR (k := 122) cx hw hin12c (by decide) (by decide) (List.mem_cons_of_mem _ mm_542) dX12_closes_110 ?_
          refine lv_sipush (v := 9000) cx.1 cx.2.1 dX12_closes_113 (by decide) ?_
          refine lv_aload_n cx.1 cx.2.1 dX12_closes_116 rfl (lv_at hl 0 rfl) ?_
          refine md_gI (k := 127) cx hw hin12c rfl (by decide) (List.mem_cons_of_mem _ mm_538) dX12_closes_117 ?_
          refine lv_imul cx.1 cx.2.1 dX12_closes_120 ?_
          refine lv_aload_n cx.1 cx.2.1 dX12_closes_121 rfl (lv_at hl 0 rfl) ?_
          refine md_gR (k := 120) cx hw hin12c (by decide) (by decide) (List.mem_cons_of_mem _ mm_540) dX12_closes_122 ?_
          refine lv_aload_n cx.1 cx.2.1 dX12_closes_125 rfl (lv_at hl 0 rfl) ?_
          refine md_gI (k := 127) cx hw hin12c rfl (by decide) (List.mem_cons_of_mem _ mm_538) dX12_closes_126 ?_
          obtain ⟨v12, e_v12, h⟩ := md_ob h
          refine md_lI (k := 120) hj cx hw (by decide) rfl rfl rfl e_v12 dX12_closes_129 ?_
          refine lv_iadd cx.1 cx.2.1 dX12_closes_130 ?_
          refine lv_iload_n cx.1 cx.2.1 dX12_closes_131 rfl (lv_at hl 3 rfl) ?_
          refine lv_iadd cx.1 cx.2.1 dX12_closes_132 ?_
          obtain ⟨v13, e_v13, h⟩ := md_ob h
          refine md_lI (k := 122) hj cx hw (by decide) rfl rfl rfl e_v13 dX12_closes_133 ?_
          obtain ⟨σ14, e_σ14, h⟩ := md_ob h
          refine md_sI (k := 100) hj cx hw (by decide) rfl rfl rfl e_σ14 dX12_closes_134 (fun H locs hw => ?_)
          refine lv_iinc (v := (l3 + 1)) (lv' := [(3, .int (l3 + 1)), (0, .ref (ad 137)), (1, .int l1), (2, .int l2)]) cx.1 cx.2.1 dX12_closes_135 hl (k := 3) rfl rfl (by decide) rfl (fun ls hl => ?_)
          refine lv_goto (tgt := 49) cx.1 cx.2.1 dX12_closes_138 (by decide) ?_
          exact ih σ14 l1 l2 ((l3 + 1)) q _ _ _ h hw (lv_sub hl [1, 2, 3, 0] rfl) K
    obtain ⟨q15, e_q15, h⟩ := md_ob h
    refine L49 n p5.2 a1 (p5.1) 0 q15 _ _ _ e_q15 hw (lv_sub hl [2, 3, 1, 0] rfl) (fun H locs ls hw hl => ?_)
    refine lv_aload_n cx.1 cx.2.1 dX12_closes_141 rfl (lv_at hl 0 rfl) ?_
    refine lv_iconst (v := 3) cx.1 cx.2.1 dX12_closes_142 (by decide) ?_
    refine lv_iload_n cx.1 cx.2.1 dX12_closes_143 rfl (lv_at hl 1 rfl) ?_
    obtain ⟨p16, e_p16, h⟩ := md_ob h
    refine hp_callVv (As := [.int 3, .int p5.1]) (rest := []) cx hw (km_X12_push l D cA E _ ad hj hE n q15.1 (3 : Int32) (p5.1) p16 e_p16) (cwV 2 cx.2.2.2.2.2.1 (md_giV mm_558 mm_559 mm_560 mm_5 mm_561) rfl rfl rfl hd_X12_push ⟨Nat.le_of_ble_eq_true rfl, Nat.le_of_ble_eq_true rfl⟩) md_at0 rfl rfl hl.1 rfl (Nat.le_of_ble_eq_true rfl) dX12_closes_144 ⟨Nat.le_refl _, Nat.le_refl _⟩ (fun u H locs hp hw => ?_)
    obtain rfl := hp
    exact hp_vret cx hw (md_retv h) dX12_closes_147
  · have h := md_ip c25 h
    refine lv_aload_n cx.1 cx.2.1 dX12_closes_28 rfl (lv_at hl 0 rfl) ?_
    refine lv_bipush (v := 9) cx.1 cx.2.1 dX12_closes_29 (by decide) ?_
    obtain ⟨p17, e_p17, h⟩ := md_ob h
    refine hp_callVv (As := [.int 9]) (rest := []) cx hw (km_X12_failure l D cA E _ ad hj hE n σ3 (9 : Int32) p17 e_p17) (cwV 1 cx.2.2.2.2.2.1 (md_giV mm_575 mm_576 mm_577 mm_5 mm_578) rfl rfl rfl hd_X12_failure ⟨Nat.le_of_ble_eq_true rfl, Nat.le_of_ble_eq_true rfl⟩) md_at0 rfl rfl hl.1 rfl (Nat.le_of_ble_eq_true rfl) dX12_closes_31 ⟨Nat.le_refl _, Nat.le_refl _⟩ (fun u H locs hp hw => ?_)
    obtain rfl := hp
    exact hp_vret cx hw (md_retv h) dX12_closes_34
set_option maxHeartbeats 4000000 in
set_option maxRecDepth 100000 in
theorem km_X12_reckons (l : Launch) (D : va_G) (cA : Nat → ClassId) (E : hp_N) (sz : Nat) (ad : Nat → Nat) (hj : md_inj ad) (hE : md_E E) (n : Nat) (σ0 : md_S) (a1 : Int32) (p : (Int32 × md_S)) (h : f_X12_reckons n σ0 a1 = some p) : Met l yX12_reckons (Cond.code yX12_reckons cX12_reckons 6 none :: v_MOD) ({ frames := 2, cells := 0, slots := 0, locals := 47 }) (hp_Pc D vwCl (hp_Tl cA) E sz (md_pic cA ad σ0) [.ref (ad 137), .int a1]) (hp_Qv D vwCl (hp_Tl cA) sz (md_pic cA ad σ0) (fun u => u = md_pic cA ad p.2)) 0 0 (hp_A (md_pic cA ad σ0) sz) := by
  refine hp_ofW (cc := cX12_reckons) (maxL := 6) (ret := none) (by decide) rfl (Nat.le_of_ble_eq_true rfl) ?_
  intro pp ee ss mm bb mt cd ls cx hsz hw hl
  have hl : lv_has ls 6 [(0, .ref (ad 137)), (1, .int a1)] := hl
  have J142 : ∀ (σ : md_S) (t0 : Int32) (t1 : Int32) (H : Heap) (locs : List Loc) (ls : Array Slot), f_X12_reckons_J142 n σ t0 t1 = some p → hp_w D vwCl (hp_Tl cA) E (hp_A (md_pic cA ad σ0) sz) ss H locs (md_pic cA ad σ) → lv_has ls 6 [] → W pp l ee ({ frames := 2, cells := 0, slots := 0, locals := 47 }) ss mm [.ref (ad 137), .int a1].toArray bb mt cd H locs 0 0 (MQ bb (hp_Qv D vwCl (hp_Tl cA) sz (md_pic cA ad σ0) (fun u => u = md_pic cA ad p.2)) [.ref (ad 137), .int a1].toArray ss 0 0 (hp_A (md_pic cA ad σ0) sz)) (F0 mm 142 ls [.int t0, .int t1, .ref (ad 137)]) := by
    intro σ t0 t1 H locs ls h hw hl
    obtain ⟨p1, e_p1, h⟩ := md_ob h
    refine hp_callVv (As := [.int t1, .int t0]) (rest := []) cx hw (km_X12_push l D cA E _ ad hj hE n σ t1 t0 p1 e_p1) (cwV 2 cx.2.2.2.2.2.1 (md_giV mm_558 mm_559 mm_560 mm_5 mm_561) rfl rfl rfl hd_X12_push ⟨Nat.le_of_ble_eq_true rfl, Nat.le_of_ble_eq_true rfl⟩) md_at0 rfl rfl hl.1 rfl (Nat.le_of_ble_eq_true rfl) dX12_reckons_142 ⟨Nat.le_refl _, Nat.le_refl _⟩ (fun u H locs hp hw => ?_)
    obtain rfl := hp
    exact hp_vret cx hw (md_retv h) dX12_reckons_145
  have J84 : ∀ (σ : md_S) (H : Heap) (locs : List Loc) (ls : Array Slot), f_X12_reckons_J84 n σ = some p → hp_w D vwCl (hp_Tl cA) E (hp_A (md_pic cA ad σ0) sz) ss H locs (md_pic cA ad σ) → lv_has ls 6 [(0, .ref (ad 137))] → W pp l ee ({ frames := 2, cells := 0, slots := 0, locals := 47 }) ss mm [.ref (ad 137), .int a1].toArray bb mt cd H locs 0 0 (MQ bb (hp_Qv D vwCl (hp_Tl cA) sz (md_pic cA ad σ0) (fun u => u = md_pic cA ad p.2)) [.ref (ad 137), .int a1].toArray ss 0 0 (hp_A (md_pic cA ad σ0) sz)) (F0 mm 84 ls []) := by
    intro σ H locs ls h hw hl
    refine lv_aload_n cx.1 cx.2.1 dX12_reckons_84 rfl (lv_at hl 0 rfl) ?_
    refine lv_iconst (v := 5) cx.1 cx.2.1 dX12_reckons_85 (by decide) ?_
    obtain ⟨p2, e_p2, h⟩ := md_ob h
    refine hp_callVv (As := [.int 5]) (rest := []) cx hw (km_X12_failure l D cA E _ ad hj hE n σ (5 : Int32) p2 e_p2) (cwV 1 cx.2.2.2.2.2.1 (md_giV mm_575 mm_576 mm_577 mm_5 mm_578) rfl rfl rfl hd_X12_failure ⟨Nat.le_of_ble_eq_true rfl, Nat.le_of_ble_eq_true rfl⟩) md_at0 rfl rfl hl.1 rfl (Nat.le_of_ble_eq_true rfl) dX12_reckons_86 ⟨Nat.le_refl _, Nat.le_refl _⟩ (fun u H locs hp hw => ?_)
    obtain rfl := hp
    exact hp_vret cx hw (md_retv h) dX12_reckons_89
  have J71 : ∀ (σ : md_S) (t0 : Int32) (t1 : Int32) (H : Heap) (locs : List Loc) (ls : Array Slot), f_X12_reckons_J71 n σ t0 t1 = some p → hp_w D vwCl (hp_Tl cA) E (hp_A (md_pic cA ad σ0) sz) ss H locs (md_pic cA ad σ) → lv_has ls 6 [] → W pp l ee ({ frames := 2, cells := 0, slots := 0, locals := 47 }) ss mm [.ref (ad 137), .int a1].toArray bb mt cd H locs 0 0 (MQ bb (hp_Qv D vwCl (hp_Tl cA) sz (md_pic cA ad σ0) (fun u => u = md_pic cA ad p.2)) [.ref (ad 137), .int a1].toArray ss 0 0 (hp_A (md_pic cA ad σ0) sz)) (F0 mm 71 ls [.int t0, .int t1, .ref (ad 137)]) := by
    intro σ t0 t1 H locs ls h hw hl
    obtain ⟨p3, e_p3, h⟩ := md_ob h
    refine hp_callVv (As := [.int t1, .int t0]) (rest := []) cx hw (km_X12_push l D cA E _ ad hj hE n σ t1 t0 p3 e_p3) (cwV 2 cx.2.2.2.2.2.1 (md_giV mm_558 mm_559 mm_560 mm_5 mm_561) rfl rfl rfl hd_X12_push ⟨Nat.le_of_ble_eq_true rfl, Nat.le_of_ble_eq_true rfl⟩) md_at0 rfl rfl hl.1 rfl (Nat.le_of_ble_eq_true rfl) dX12_reckons_71 ⟨Nat.le_refl _, Nat.le_refl _⟩ (fun u H locs hp hw => ?_)
    obtain rfl := hp
    exact hp_vret cx hw (md_retv h) dX12_reckons_74
  have J70 : ∀ (σ : md_S) (t0 : Int32) (H : Heap) (locs : List Loc) (ls : Array Slot), f_X12_reckons_J70 n σ t0 = some p → hp_w D vwCl (hp_Tl cA) E (hp_A (md_pic cA ad σ0) sz) ss H locs (md_pic cA ad σ) → lv_has ls 6 [] → W pp l ee ({ frames := 2, cells := 0, slots := 0, locals := 47 }) ss mm [.ref (ad 137), .int a1].toArray bb mt cd H locs 0 0 (MQ bb (hp_Qv D vwCl (hp_Tl cA) sz (md_pic cA ad σ0) (fun u => u = md_pic cA ad p.2)) [.ref (ad 137), .int a1].toArray ss 0 0 (hp_A (md_pic cA ad σ0) sz)) (F0 mm 70 ls [.int t0, .ref (ad 137)]) := by
    intro σ t0 H locs ls h hw hl
    refine lv_iconst (v := 0) cx.1 cx.2.1 dX12_reckons_70 (by decide) ?_
    exact J71 σ 0 t0 _ _ _ h hw (lv_sub hl [] rfl)
  have J66 : ∀ (σ : md_S) (t0 : Int32) (H : Heap) (locs : List Loc) (ls : Array Slot), f_X12_reckons_J66 n σ t0 = some p → hp_w D vwCl (hp_Tl cA) E (hp_A (md_pic cA ad σ0) sz) ss H locs (md_pic cA ad σ) → lv_has ls 6 [] → W pp l ee ({ frames := 2, cells := 0, slots := 0, locals := 47 }) ss mm [.ref (ad 137), .int a1].toArray bb mt cd H locs 0 0 (MQ bb (hp_Qv D vwCl (hp_Tl cA) sz (md_pic cA ad σ0) (fun u => u = md_pic cA ad p.2)) [.ref (ad 137), .int a1].toArray ss 0 0 (hp_A (md_pic cA ad σ0) sz)) (F0 mm 66 ls [.int t0, .ref (ad 137)]) := by
    intro σ t0 H locs ls h hw hl
    refine lv_iconst (v := 1) cx.1 cx.2.1 dX12_reckons_66 (by decide) ?_
    refine lv_goto (tgt := 71) cx.1 cx.2.1 dX12_reckons_67 (by decide) ?_
    exact J71 σ 1 t0 _ _ _ h hw (lv_sub hl [] rfl)
  have J39 : ∀ (σ : md_S) (H : Heap) (locs : List Loc) (ls : Array Slot), f_X12_reckons_J39 n σ = some p → hp_w D vwCl (hp_Tl cA) E (hp_A (md_pic cA ad σ0) sz) ss H locs (md_pic cA ad σ) → lv_has ls 6 [(0, .ref (ad 137))] → W pp l ee ({ frames := 2, cells := 0, slots := 0, locals := 47 }) ss mm [.ref (ad 137), .int a1].toArray bb mt cd H locs 0 0 (MQ bb (hp_Qv D vwCl (hp_Tl cA) sz (md_pic cA ad σ0) (fun u => u = md_pic cA ad p.2)) [.ref (ad 137), .int a1].toArray ss 0 0 (hp_A (md_pic cA ad σ0) sz)) (F0 mm 39 ls []) := by
    intro σ H locs ls h hw hl
    refine lv_aload_n cx.1 cx.2.1 dX12_reckons_39 rfl (lv_at hl 0 rfl) ?_
    refine lv_iconst (v := 5) cx.1 cx.2.1 dX12_reckons_40 (by decide) ?_
    obtain ⟨p4, e_p4, h⟩ := md_ob h
    refine hp_callVv (As := [.int 5]) (rest := []) cx hw (km_X12_failure l D cA E _ ad hj hE n σ (5 : Int32) p4 e_p4) (cwV 1 cx.2.2.2.2.2.1 (md_giV mm_575 mm_576 mm_577 mm_5 mm_578) rfl rfl rfl hd_X12_failure ⟨Nat.le_of_ble_eq_true rfl, Nat.le_of_ble_eq_true rfl⟩) md_at0 rfl rfl hl.1 rfl (Nat.le_of_ble_eq_true rfl) dX12_reckons_41 ⟨Nat.le_refl _, Nat.le_refl _⟩ (fun u H locs hp hw => ?_)
    obtain rfl := hp
    refine lv_goto (tgt := 74) cx.1 cx.2.1 dX12_reckons_44 (by decide) ?_
    exact hp_vret cx hw (md_retv h) dX12_reckons_74
  refine lv_aload_n cx.1 cx.2.1 dX12_reckons_0 rfl (lv_at hl 0 rfl) ?_
  obtain ⟨p5, e_p5, h⟩ := md_ob h
  refine hp_callVi (As := []) (rest := []) cx hw (km_X12_pop l D cA E _ ad hj hE n σ0  p5 e_p5) (cwV 0 cx.2.2.2.2.2.1 (md_giV mm_613 mm_614 mm_615 mm_5 mm_616) rfl rfl rfl hd_X12_pop ⟨Nat.le_of_ble_eq_true rfl, Nat.le_of_ble_eq_true rfl⟩) md_at0 rfl rfl hl.1 rfl (Nat.le_of_ble_eq_true rfl) dX12_reckons_1 ⟨Nat.le_refl _, Nat.le_refl _⟩ (fun r u H locs hp hw => ?_)
  obtain ⟨rfl, rfl⟩ := hp
  refine lv_istore_n (lv' := [(2, .int p5.1), (0, .ref (ad 137)), (1, .int a1)]) cx.1 cx.2.1 dX12_reckons_4 rfl hl (by decide) rfl (fun ls hl => ?_)
  refine lv_aload_n cx.1 cx.2.1 dX12_reckons_5 rfl (lv_at hl 1 rfl) ?_
  refine md_gI (k := 135) cx hw hin12c rfl (by decide) (List.mem_cons_of_mem _ mm_543) dX12_reckons_6 ?_
  refine lv_istore_n (lv' := [(3, .int (mI p5.2 135)), (2, .int p5.1), (0, .ref (ad 137)), (1, .int a1)]) cx.1 cx.2.1 dX12_reckons_9 rfl hl (by decide) rfl (fun ls hl => ?_)
  refine lv_aload_n cx.1 cx.2.1 dX12_reckons_10 rfl (lv_at hl 2 rfl) ?_
  obtain ⟨p6, e_p6, h⟩ := md_ob h
  refine hp_callVi (As := []) (rest := []) cx hw (km_X12_pop l D cA E _ ad hj hE n p5.2  p6 e_p6) (cwV 0 cx.2.2.2.2.2.1 (md_giV mm_613 mm_614 mm_615 mm_5 mm_616) rfl rfl rfl hd_X12_pop ⟨Nat.le_of_ble_eq_true rfl, Nat.le_of_ble_eq_true rfl⟩) md_at0 rfl rfl hl.1 rfl (Nat.le_of_ble_eq_true rfl) dX12_reckons_11 ⟨Nat.le_refl _, Nat.le_refl _⟩ (fun r u H locs hp hw => ?_)
  obtain ⟨rfl, rfl⟩ := hp
  refine lv_istore (lv' := [(4, .int p6.1), (3, .int (mI p5.2 135)), (2, .int p5.1), (0, .ref (ad 137)), (1, .int a1)]) cx.1 cx.2.1 dX12_reckons_14 hl (by decide) rfl (fun ls hl => ?_)
  refine lv_aload_n cx.1 cx.2.1 dX12_reckons_16 rfl (lv_at hl 3 rfl) ?_
  refine md_gI (k := 135) cx hw hin12c rfl (by decide) (List.mem_cons_of_mem _ mm_543) dX12_reckons_17 ?_
  refine lv_istore (lv' := [(5, .int (mI p6.2 135)), (4, .int p6.1), (3, .int (mI p5.2 135)), (2, .int p5.1), (0, .ref (ad 137)), (1, .int a1)]) cx.1 cx.2.1 dX12_reckons_20 hl (by decide) rfl (fun ls hl => ?_)
  refine lv_iload_n cx.1 cx.2.1 dX12_reckons_22 rfl (lv_at hl 5 rfl) ?_
  refine lv_bipush (v := 15) cx.1 cx.2.1 dX12_reckons_23 (by decide) ?_
  refine lv_icmp_ne (tgt := 75) cx.1 cx.2.1 dX12_reckons_25 (by decide) (fun c25 => ?_) (fun c25 => ?_)
  · have h := md_in c25 h
    refine lv_iload_n cx.1 cx.2.1 dX12_reckons_75 rfl (lv_at hl 3 rfl) ?_
    refine lv_if_ne (tgt := 84) cx.1 cx.2.1 dX12_reckons_76 (by decide) (fun c76 => ?_) (fun c76 => ?_)
    · have h := md_in c76 h
      exact J84 p6.2 _ _ _ h hw (lv_sub hl [4] rfl)
    · have h := md_ip c76 h
      refine lv_iload cx.1 cx.2.1 dX12_reckons_79 (lv_at hl 1 rfl) ?_
      refine lv_if_eq (tgt := 90) cx.1 cx.2.1 dX12_reckons_81 (by decide) (fun c81 => ?_) (fun c81 => ?_)
      · have h := md_ip c81 h
        refine lv_aload_n cx.1 cx.2.1 dX12_reckons_90 rfl (lv_at hl 4 rfl) ?_
        refine lv_iconst (v := 0) cx.1 cx.2.1 dX12_reckons_91 (by decide) ?_
        refine lv_iload_n cx.1 cx.2.1 dX12_reckons_92 rfl (lv_at hl 5 rfl) ?_
        refine lv_bipush (v := 11) cx.1 cx.2.1 dX12_reckons_93 (by decide) ?_
        refine lv_icmp_ne (tgt := 105) cx.1 cx.2.1 dX12_reckons_95 (by decide) (fun c95 => ?_) (fun c95 => ?_)
        · have h := md_in c95 h
          refine lv_iload_n cx.1 cx.2.1 dX12_reckons_105 rfl (lv_at hl 5 rfl) ?_
          refine lv_bipush (v := 12) cx.1 cx.2.1 dX12_reckons_106 (by decide) ?_
          refine lv_icmp_ne (tgt := 118) cx.1 cx.2.1 dX12_reckons_108 (by decide) (fun c108 => ?_) (fun c108 => ?_)
          · have h := md_in c108 h
            refine lv_iload_n cx.1 cx.2.1 dX12_reckons_118 rfl (lv_at hl 5 rfl) ?_
            refine lv_bipush (v := 13) cx.1 cx.2.1 dX12_reckons_119 (by decide) ?_
            refine lv_icmp_ne (tgt := 131) cx.1 cx.2.1 dX12_reckons_121 (by decide) (fun c121 => ?_) (fun c121 => ?_)
            · have h := md_in c121 h
              refine lv_iload cx.1 cx.2.1 dX12_reckons_131 (lv_at hl 0 rfl) ?_
              refine lv_iload_n cx.1 cx.2.1 dX12_reckons_133 rfl (lv_at hl 2 rfl) ?_
              refine lv_icmp_ge (tgt := 141) cx.1 cx.2.1 dX12_reckons_134 (by decide) (fun c134 => ?_) (fun c134 => ?_)
              · have h := md_ip c134 h
                refine lv_iconst (v := 0) cx.1 cx.2.1 dX12_reckons_141 (by decide) ?_
                exact J142 p6.2 0 0 _ _ _ h hw (lv_sub hl [] rfl)
              · have h := md_in c134 h
                refine lv_iconst (v := 1) cx.1 cx.2.1 dX12_reckons_137 (by decide) ?_
                refine lv_goto (tgt := 142) cx.1 cx.2.1 dX12_reckons_138 (by decide) ?_
                exact J142 p6.2 1 0 _ _ _ h hw (lv_sub hl [] rfl)
            · have h := md_ip c121 h
              refine lv_iload cx.1 cx.2.1 dX12_reckons_124 (lv_at hl 0 rfl) ?_
              refine lv_iload_n cx.1 cx.2.1 dX12_reckons_126 rfl (lv_at hl 2 rfl) ?_
              refine lv_imul cx.1 cx.2.1 dX12_reckons_127 ?_
              refine lv_goto (tgt := 142) cx.1 cx.2.1 dX12_reckons_128 (by decide) ?_
              exact J142 p6.2 (((mI p6.2 135) * (mI p5.2 135))) 0 _ _ _ h hw (lv_sub hl [] rfl)
          · have h := md_ip c108 h
            refine lv_iload cx.1 cx.2.1 dX12_reckons_111 (lv_at hl 0 rfl) ?_
            refine lv_iload_n cx.1 cx.2.1 dX12_reckons_113 rfl (lv_at hl 2 rfl) ?_
            refine lv_isub cx.1 cx.2.1 dX12_reckons_114 ?_
            refine lv_goto (tgt := 142) cx.1 cx.2.1 dX12_reckons_115 (by decide) ?_
            exact J142 p6.2 (((mI p6.2 135) - (mI p5.2 135))) 0 _ _ _ h hw (lv_sub hl [] rfl)
        · have h := md_ip c95 h
          refine lv_iload cx.1 cx.2.1 dX12_reckons_98 (lv_at hl 0 rfl) ?_
          refine lv_iload_n cx.1 cx.2.1 dX12_reckons_100 rfl (lv_at hl 2 rfl) ?_
          refine lv_iadd cx.1 cx.2.1 dX12_reckons_101 ?_
          refine lv_goto (tgt := 142) cx.1 cx.2.1 dX12_reckons_102 (by decide) ?_
          exact J142 p6.2 (((mI p6.2 135) + (mI p5.2 135))) 0 _ _ _ h hw (lv_sub hl [] rfl)
      · have h := md_in c81 h
        exact J84 p6.2 _ _ _ h hw (lv_sub hl [4] rfl)
  · have h := md_ip c25 h
    refine lv_iload_n cx.1 cx.2.1 dX12_reckons_28 rfl (lv_at hl 3 rfl) ?_
    refine lv_iconst (v := 3) cx.1 cx.2.1 dX12_reckons_29 (by decide) ?_
    refine lv_icmp_ge (tgt := 39) cx.1 cx.2.1 dX12_reckons_30 (by decide) (fun c30 => ?_) (fun c30 => ?_)
    · have h := md_ip c30 h
      exact J39 p6.2 _ _ _ h hw (lv_sub hl [4] rfl)
    · have h := md_in c30 h
      refine lv_iload cx.1 cx.2.1 dX12_reckons_33 (lv_at hl 1 rfl) ?_
      refine lv_iconst (v := 3) cx.1 cx.2.1 dX12_reckons_35 (by decide) ?_
      refine lv_icmp_lt (tgt := 47) cx.1 cx.2.1 dX12_reckons_36 (by decide) (fun c36 => ?_) (fun c36 => ?_)
      · have h := md_ip c36 h
        refine lv_aload_n cx.1 cx.2.1 dX12_reckons_47 rfl (lv_at hl 4 rfl) ?_
        refine lv_iconst (v := 0) cx.1 cx.2.1 dX12_reckons_48 (by decide) ?_
        refine lv_iload_n cx.1 cx.2.1 dX12_reckons_49 rfl (lv_at hl 3 rfl) ?_
        refine lv_iload cx.1 cx.2.1 dX12_reckons_50 (lv_at hl 1 rfl) ?_
        refine lv_icmp_ne (tgt := 70) cx.1 cx.2.1 dX12_reckons_52 (by decide) (fun c52 => ?_) (fun c52 => ?_)
        · have h := md_in c52 h
          exact J70 p6.2 0 _ _ _ h hw (lv_sub hl [] rfl)
        · have h := md_ip c52 h
          refine lv_iload_n cx.1 cx.2.1 dX12_reckons_55 rfl (lv_at hl 3 rfl) ?_
          refine lv_iconst (v := 1) cx.1 cx.2.1 dX12_reckons_56 (by decide) ?_
          refine lv_icmp_eq (tgt := 66) cx.1 cx.2.1 dX12_reckons_57 (by decide) (fun c57 => ?_) (fun c57 => ?_)
          · have h := md_ip c57 h
            exact J66 p6.2 0 _ _ _ h hw (lv_sub hl [] rfl)
          · have h := md_in c57 h
            refine lv_iload cx.1 cx.2.1 dX12_reckons_60 (lv_at hl 0 rfl) ?_
            refine lv_iload_n cx.1 cx.2.1 dX12_reckons_62 rfl (lv_at hl 2 rfl) ?_
            refine lv_icmp_ne (tgt := 70) cx.1 cx.2.1 dX12_reckons_63 (by decide) (fun c63 => ?_) (fun c63 => ?_)
            · have h := md_in c63 h
              exact J70 p6.2 0 _ _ _ h hw (lv_sub hl [] rfl)
            · have h := md_ip c63 h
              exact J66 p6.2 0 _ _ _ h hw (lv_sub hl [] rfl)
      · have h := md_in c36 h
        exact J39 p6.2 _ _ _ h hw (lv_sub hl [4] rfl)
set_option maxHeartbeats 4000000 in
set_option maxRecDepth 100000 in
theorem km_X12_methodOf (l : Launch) (D : va_G) (cA : Nat → ClassId) (E : hp_N) (sz : Nat) (ad : Nat → Nat) (hj : md_inj ad) (hE : md_E E) (n : Nat) (σ0 : md_S) (a1 : Int32) (a2 : Int64) (a4 : Int32) (p : (Int32 × md_S)) (h : f_X12_methodOf n σ0 a1 a2 a4 = some p) : Met l yX12_methodOf (Cond.code yX12_methodOf cX12_methodOf 8 (some .int) :: v_MOD) ({ frames := 0, cells := 0, slots := 0, locals := 0 }) (hp_Pc D vwCl (hp_Tl cA) E sz (md_pic cA ad σ0) [.ref (ad 137), .int a1, .long a2, .int a4]) (hp_Qi D vwCl (hp_Tl cA) sz (md_pic cA ad σ0) (fun r u => r = p.1 ∧ u = md_pic cA ad p.2)) 0 0 (hp_A (md_pic cA ad σ0) sz) := by
  refine hp_ofW (cc := cX12_methodOf) (maxL := 8) (ret := (some .int)) (by decide) rfl (Nat.le_of_ble_eq_true rfl) ?_
  intro pp ee ss mm bb mt cd ls cx hsz hw hl
  have hl : lv_has ls 8 [(0, .ref (ad 137)), (1, .int a1), (2, .long a2), (4, .int a4)] := hl
  refine lv_iload_n cx.1 cx.2.1 dX12_methodOf_0 rfl (lv_at hl 1 rfl) ?_
  refine lv_istore (lv' := [(5, .int a1), (0, .ref (ad 137)), (1, .int a1), (2, .long a2), (4, .int a4)]) cx.1 cx.2.1 dX12_methodOf_1 hl (by decide) rfl (fun ls hl => ?_)
  have L3 : ∀ (j : Nat) (σ : md_S) (l2 : Int64) (l4 : Int32) (l5 : Int32) (q : ((Int32 × md_S) ⊕ (md_S × Int32))) (H : Heap) (locs : List Loc) (ls : Array Slot), f_X12_methodOf_L3 n l2 l4 j σ l5 = some q → hp_w D vwCl (hp_Tl cA) E (hp_A (md_pic cA ad σ0) sz) ss H locs (md_pic cA ad σ) → lv_has ls 8 [(0, .ref (ad 137)), (2, .long l2), (4, .int l4), (5, .int l5)] → (∀ t, q = Sum.inr t → ∀ (H : Heap) (locs : List Loc) (ls : Array Slot), hp_w D vwCl (hp_Tl cA) E (hp_A (md_pic cA ad σ0) sz) ss H locs (md_pic cA ad t.1) → lv_has ls 8 [] → W pp l ee ({ frames := 0, cells := 0, slots := 0, locals := 0 }) ss mm [.ref (ad 137), .int a1, .long a2, .int a4].toArray bb mt cd H locs 0 0 (MQ bb (hp_Qi D vwCl (hp_Tl cA) sz (md_pic cA ad σ0) (fun r u => r = p.1 ∧ u = md_pic cA ad p.2)) [.ref (ad 137), .int a1, .long a2, .int a4].toArray ss 0 0 (hp_A (md_pic cA ad σ0) sz)) (F0 mm 84 ls [])) → (∀ r, q = Sum.inl r → r = p) → W pp l ee ({ frames := 0, cells := 0, slots := 0, locals := 0 }) ss mm [.ref (ad 137), .int a1, .long a2, .int a4].toArray bb mt cd H locs 0 0 (MQ bb (hp_Qi D vwCl (hp_Tl cA) sz (md_pic cA ad σ0) (fun r u => r = p.1 ∧ u = md_pic cA ad p.2)) [.ref (ad 137), .int a1, .long a2, .int a4].toArray ss 0 0 (hp_A (md_pic cA ad σ0) sz)) (F0 mm 3 ls []) := by
    intro j
    induction j with
    | zero => intro σ l2 l4 l5 q H locs ls h; exact nomatch h
    | succ j ih =>
      intro σ l2 l4 l5 q H locs ls h hw hl K KR
      refine lv_iload cx.1 cx.2.1 dX12_methodOf_3 (lv_at hl 3 rfl) ?_
      refine lv_iconst (v := (-1)) cx.1 cx.2.1 dX12_methodOf_5 (by decide) ?_
      refine lv_icmp_eq (tgt := 84) cx.1 cx.2.1 dX12_methodOf_6 (by decide) (fun c6 => ?_) (fun c6 => ?_)
      · have h := md_ip c6 h
        exact K _ (Option.some.inj h).symm _ _ _ hw (lv_sub hl [] rfl)
      · have h := md_in c6 h
        refine lv_iconst (v := 0) cx.1 cx.2.1 dX12_methodOf_9 (by decide) ?_
        refine lv_istore (lv' := [(6, .int 0), (0, .ref (ad 137)), (2, .long l2), (4, .int l4), (5, .int l5)]) cx.1 cx.2.1 dX12_methodOf_10 hl (by decide) rfl (fun ls hl => ?_)
        have L12 : ∀ (j : Nat) (σ : md_S) (l2 : Int64) (l4 : Int32) (l5 : Int32) (l6 : Int32) (q : ((Int32 × md_S) ⊕ (md_S × Int32))) (H : Heap) (locs : List Loc) (ls : Array Slot), f_X12_methodOf_L12 n l2 l4 l5 j σ l6 = some q → hp_w D vwCl (hp_Tl cA) E (hp_A (md_pic cA ad σ0) sz) ss H locs (md_pic cA ad σ) → lv_has ls 8 [(0, .ref (ad 137)), (2, .long l2), (4, .int l4), (5, .int l5), (6, .int l6)] → (∀ t, q = Sum.inr t → ∀ (H : Heap) (locs : List Loc) (ls : Array Slot), hp_w D vwCl (hp_Tl cA) E (hp_A (md_pic cA ad σ0) sz) ss H locs (md_pic cA ad t.1) → lv_has ls 8 [(0, .ref (ad 137)), (2, .long l2), (4, .int l4), (5, .int l5)] → W pp l ee ({ frames := 0, cells := 0, slots := 0, locals := 0 }) ss mm [.ref (ad 137), .int a1, .long a2, .int a4].toArray bb mt cd H locs 0 0 (MQ bb (hp_Qi D vwCl (hp_Tl cA) sz (md_pic cA ad σ0) (fun r u => r = p.1 ∧ u = md_pic cA ad p.2)) [.ref (ad 137), .int a1, .long a2, .int a4].toArray ss 0 0 (hp_A (md_pic cA ad σ0) sz)) (F0 mm 72 ls [])) → (∀ r, q = Sum.inl r → r = p) → W pp l ee ({ frames := 0, cells := 0, slots := 0, locals := 0 }) ss mm [.ref (ad 137), .int a1, .long a2, .int a4].toArray bb mt cd H locs 0 0 (MQ bb (hp_Qi D vwCl (hp_Tl cA) sz (md_pic cA ad σ0) (fun r u => r = p.1 ∧ u = md_pic cA ad p.2)) [.ref (ad 137), .int a1, .long a2, .int a4].toArray ss 0 0 (hp_A (md_pic cA ad σ0) sz)) (F0 mm 12 ls []) := by
          intro j
          induction j with
          | zero => intro σ l2 l4 l5 l6 q H locs ls h; exact nomatch h
          | succ j ih =>
            intro σ l2 l4 l5 l6 q H locs ls h hw hl K KR
            have J66 : ∀ (σ : md_S) (l6 : Int32) (H : Heap) (locs : List Loc) (ls : Array Slot), f_X12_methodOf_J66 n l2 l4 l5 (f_X12_methodOf_L12 n l2 l4 l5 j) σ l6 = some q → hp_w D vwCl (hp_Tl cA) E (hp_A (md_pic cA ad σ0) sz) ss H locs (md_pic cA ad σ) → lv_has ls 8 [(0, .ref (ad 137)), (2, .long l2), (4, .int l4), (5, .int l5), (6, .int l6)] → W pp l ee ({ frames := 0, cells := 0, slots := 0, locals := 0 }) ss mm [.ref (ad 137), .int a1, .long a2, .int a4].toArray bb mt cd H locs 0 0 (MQ bb (hp_Qi D vwCl (hp_Tl cA) sz (md_pic cA ad σ0) (fun r u => r = p.1 ∧ u = md_pic cA ad p.2)) [.ref (ad 137), .int a1, .long a2, .int a4].toArray ss 0 0 (hp_A (md_pic cA ad σ0) sz)) (F0 mm 66 ls []) := by
              intro σ l6 H locs ls h hw hl
              refine lv_iinc (v := (l6 + 1)) (lv' := [(6, .int (l6 + 1)), (0, .ref (ad 137)), (2, .long l2), (4, .int l4), (5, .int l5)]) cx.1 cx.2.1 dX12_methodOf_66 hl (k := 4) rfl rfl (by decide) rfl (fun ls hl => ?_)
              refine lv_goto (tgt := 12) cx.1 cx.2.1 dX12_methodOf_69 (by decide) ?_
              exact ih σ l2 l4 l5 ((l6 + 1)) q _ _ _ h hw (lv_sub hl [1, 2, 3, 4, 0] rfl) K KR
            refine lv_iload cx.1 cx.2.1 dX12_methodOf_12 (lv_at hl 4 rfl) ?_
            refine lv_aload_n cx.1 cx.2.1 dX12_methodOf_14 rfl (lv_at hl 0 rfl) ?_
            refine md_gR (k := 30) cx hw hin12c (by decide) (by decide) (List.mem_cons_of_mem _ mm_375) dX12_methodOf_15 ?_
            refine lv_iload cx.1 cx.2.1 dX12_methodOf_18 (lv_at hl 3 rfl) ?_
            obtain ⟨v1, e_v1, h⟩ := md_ob h
            refine md_lI (k := 30) hj cx hw (by decide) rfl rfl rfl e_v1 dX12_methodOf_20 ?_
            refine lv_icmp_ge (tgt := 72) cx.1 cx.2.1 dX12_methodOf_21 (by decide) (fun c21 => ?_) (fun c21 => ?_)
            · have h := md_ip c21 h
              exact K _ (Option.some.inj h).symm _ _ _ hw (lv_sub hl [0, 1, 2, 3] rfl)
            · have h := md_in c21 h
              refine lv_aload_n cx.1 cx.2.1 dX12_methodOf_24 rfl (lv_at hl 0 rfl) ?_
              refine md_gR (k := 31) cx hw hin12c (by decide) (by decide) (List.mem_cons_of_mem _ mm_376) dX12_methodOf_25 ?_
              refine lv_bipush (v := 12) cx.1 cx.2.1 dX12_methodOf_28 (by decide) ?_
              refine lv_iload cx.1 cx.2.1 dX12_methodOf_30 (lv_at hl 3 rfl) ?_
              refine lv_imul cx.1 cx.2.1 dX12_methodOf_32 ?_
              refine lv_iload cx.1 cx.2.1 dX12_methodOf_33 (lv_at hl 4 rfl) ?_
              refine lv_iadd cx.1 cx.2.1 dX12_methodOf_35 ?_
              obtain ⟨v2, e_v2, h⟩ := md_ob h
              refine md_lI (k := 31) hj cx hw (by decide) rfl rfl rfl e_v2 dX12_methodOf_36 ?_
              refine lv_istore (lv' := [(7, .int v2), (0, .ref (ad 137)), (2, .long l2), (4, .int l4), (5, .int l5), (6, .int l6)]) cx.1 cx.2.1 dX12_methodOf_37 hl (by decide) rfl (fun ls hl => ?_)
              refine lv_aload_n cx.1 cx.2.1 dX12_methodOf_39 rfl (lv_at hl 1 rfl) ?_
              refine md_gR (k := 43) cx hw hin12c (by decide) (by decide) (List.mem_cons_of_mem _ mm_141) dX12_methodOf_40 ?_
              refine lv_iload cx.1 cx.2.1 dX12_methodOf_43 (lv_at hl 0 rfl) ?_
              obtain ⟨v3, e_v3, h⟩ := md_ob h
              refine md_lJ (k := 43) hj cx hw (by decide) rfl rfl rfl e_v3 dX12_methodOf_45 ?_
              refine lv_lload_n cx.1 cx.2.1 dX12_methodOf_46 rfl (lv_at hl 2 rfl) ?_
              refine W.lcmp cx.1 cx.2.1 dX12_methodOf_47 ?_
              refine lv_if_ne (tgt := 66) cx.1 cx.2.1 dX12_methodOf_48 (by decide) (fun c48 => ?_) (fun c48 => ?_)
              · have h := md_in c48 h
                exact J66 σ l6 _ _ _ h hw (lv_sub hl [1, 2, 3, 4, 5] rfl)
              · have h := md_ip c48 h
                refine lv_aload_n cx.1 cx.2.1 dX12_methodOf_51 rfl (lv_at hl 1 rfl) ?_
                refine md_gR (k := 39) cx hw hin12c (by decide) (by decide) (List.mem_cons_of_mem _ mm_140) dX12_methodOf_52 ?_
                refine lv_iload cx.1 cx.2.1 dX12_methodOf_55 (lv_at hl 0 rfl) ?_
                obtain ⟨v4, e_v4, h⟩ := md_ob h
                refine md_lI (k := 39) hj cx hw (by decide) rfl rfl rfl e_v4 dX12_methodOf_57 ?_
                refine lv_iload cx.1 cx.2.1 dX12_methodOf_58 (lv_at hl 3 rfl) ?_
                refine lv_icmp_ne (tgt := 66) cx.1 cx.2.1 dX12_methodOf_60 (by decide) (fun c60 => ?_) (fun c60 => ?_)
                · have h := md_in c60 h
                  exact J66 σ l6 _ _ _ h hw (lv_sub hl [1, 2, 3, 4, 5] rfl)
                · have h := md_ip c60 h
                  refine lv_iload cx.1 cx.2.1 dX12_methodOf_63 (lv_at hl 0 rfl) ?_
                  exact hp_iret cx hw (md_ret (congrArg some (KR _ (Option.some.inj h).symm))) dX12_methodOf_65
        obtain ⟨q5, e_q5, h⟩ := md_ob h
        refine L12 n σ l2 l4 l5 0 q5 _ _ _ e_q5 hw (lv_sub hl [1, 2, 3, 4, 0] rfl) (fun t5 hq5 H locs ls hw hl => ?_) (fun r hr => by subst hr; exact KR _ (Option.some.inj h).symm)
        subst hq5
        have h := md_inr h
        refine lv_aload_n cx.1 cx.2.1 dX12_methodOf_72 rfl (lv_at hl 0 rfl) ?_
        refine md_gR (k := 27) cx hw hin12c (by decide) (by decide) (List.mem_cons_of_mem _ mm_170) dX12_methodOf_73 ?_
        refine lv_iload cx.1 cx.2.1 dX12_methodOf_76 (lv_at hl 3 rfl) ?_
        obtain ⟨v6, e_v6, h⟩ := md_ob h
        refine md_lI (k := 27) hj cx hw (by decide) rfl rfl rfl e_v6 dX12_methodOf_78 ?_
        refine lv_istore (lv' := [(5, .int v6), (0, .ref (ad 137)), (2, .long l2), (4, .int l4)]) cx.1 cx.2.1 dX12_methodOf_79 hl (by decide) rfl (fun ls hl => ?_)
        refine lv_goto (tgt := 3) cx.1 cx.2.1 dX12_methodOf_81 (by decide) ?_
        exact ih t5.1 l2 l4 v6 q _ _ _ h hw (lv_sub hl [1, 2, 3, 0] rfl) K KR
  obtain ⟨q7, e_q7, h⟩ := md_ob h
  refine L3 n σ0 a2 a4 a1 q7 _ _ _ e_q7 hw (lv_sub hl [1, 3, 4, 0] rfl) (fun t7 hq7 H locs ls hw hl => ?_) (fun r hr => by subst hr; exact Option.some.inj h)
  subst hq7
  have h := md_inr h
  refine lv_iconst (v := (-1)) cx.1 cx.2.1 dX12_methodOf_84 (by decide) ?_
  exact hp_iret cx hw (md_ret h) dX12_methodOf_85
set_option maxHeartbeats 4000000 in
set_option maxRecDepth 100000 in
theorem km_X12_sends (l : Launch) (D : va_G) (cA : Nat → ClassId) (E : hp_N) (sz : Nat) (ad : Nat → Nat) (hj : md_inj ad) (hE : md_E E) (n : Nat) (σ0 : md_S) (a1 : Int64) (a3 : Int32) (p : (Int32 × md_S)) (h : f_X12_sends n σ0 a1 a3 = some p) : Met l yX12_sends (Cond.code yX12_sends cX12_sends 7 none :: v_MOD) ({ frames := 3, cells := 0, slots := 0, locals := 78 }) (hp_Pc D vwCl (hp_Tl cA) E sz (md_pic cA ad σ0) [.ref (ad 137), .long a1, .int a3]) (hp_Qv D vwCl (hp_Tl cA) sz (md_pic cA ad σ0) (fun u => u = md_pic cA ad p.2)) 0 0 (hp_A (md_pic cA ad σ0) sz) := by
  refine hp_ofW (cc := cX12_sends) (maxL := 7) (ret := none) (by decide) rfl (Nat.le_of_ble_eq_true rfl) ?_
  intro pp ee ss mm bb mt cd ls cx hsz hw hl
  have hl : lv_has ls 7 [(0, .ref (ad 137)), (1, .long a1), (3, .int a3)] := hl
  refine lv_sipush (v := 9000) cx.1 cx.2.1 dX12_sends_0 (by decide) ?_
  refine lv_aload_n cx.1 cx.2.1 dX12_sends_3 rfl (lv_at hl 0 rfl) ?_
  refine md_gI (k := 127) cx hw hin12c rfl (by decide) (List.mem_cons_of_mem _ mm_538) dX12_sends_4 ?_
  refine lv_imul cx.1 cx.2.1 dX12_sends_7 ?_
  refine lv_aload_n cx.1 cx.2.1 dX12_sends_8 rfl (lv_at hl 0 rfl) ?_
  refine md_gR (k := 120) cx hw hin12c (by decide) (by decide) (List.mem_cons_of_mem _ mm_540) dX12_sends_9 ?_
  refine lv_aload_n cx.1 cx.2.1 dX12_sends_12 rfl (lv_at hl 0 rfl) ?_
  refine md_gI (k := 127) cx hw hin12c rfl (by decide) (List.mem_cons_of_mem _ mm_538) dX12_sends_13 ?_
  obtain ⟨v1, e_v1, h⟩ := md_ob h
  refine md_lI (k := 120) hj cx hw (by decide) rfl rfl rfl e_v1 dX12_sends_16 ?_
  refine lv_iadd cx.1 cx.2.1 dX12_sends_17 ?_
  refine lv_iload_n cx.1 cx.2.1 dX12_sends_18 rfl (lv_at hl 2 rfl) ?_
  refine lv_isub cx.1 cx.2.1 dX12_sends_19 ?_
  refine lv_iconst (v := 1) cx.1 cx.2.1 dX12_sends_20 (by decide) ?_
  refine lv_isub cx.1 cx.2.1 dX12_sends_21 ?_
  refine lv_istore (lv' := [(4, .int (((((9000 : Int32) * (mI σ0 127)) + v1) - a3) - 1)), (0, .ref (ad 137)), (1, .long a1), (3, .int a3)]) cx.1 cx.2.1 dX12_sends_22 hl (by decide) rfl (fun ls hl => ?_)
  refine lv_aload_n cx.1 cx.2.1 dX12_sends_24 rfl (lv_at hl 1 rfl) ?_
  refine md_gR (k := 120) cx hw hin12c (by decide) (by decide) (List.mem_cons_of_mem _ mm_540) dX12_sends_25 ?_
  refine lv_aload_n cx.1 cx.2.1 dX12_sends_28 rfl (lv_at hl 1 rfl) ?_
  refine md_gI (k := 127) cx hw hin12c rfl (by decide) (List.mem_cons_of_mem _ mm_538) dX12_sends_29 ?_
  refine lv_dup2_11 cx.1 cx.2.1 dX12_sends_32 rfl rfl ?_
  obtain ⟨v2, e_v2, h⟩ := md_ob h
  refine md_lI (k := 120) hj cx hw (by decide) rfl rfl rfl e_v2 dX12_sends_33 ?_
  refine lv_iload_n cx.1 cx.2.1 dX12_sends_34 rfl (lv_at hl 3 rfl) ?_
  refine lv_iconst (v := 1) cx.1 cx.2.1 dX12_sends_35 (by decide) ?_
  refine lv_iadd cx.1 cx.2.1 dX12_sends_36 ?_
  refine lv_isub cx.1 cx.2.1 dX12_sends_37 ?_
  obtain ⟨σ3, e_σ3, h⟩ := md_ob h
  refine md_sI (k := 120) hj cx hw (by decide) rfl rfl rfl e_σ3 dX12_sends_38 (fun H locs hw => ?_)
  refine lv_aload_n cx.1 cx.2.1 dX12_sends_39 rfl (lv_at hl 1 rfl) ?_
  refine md_gR (k := 121) cx hw hin12c (by decide) (by decide) (List.mem_cons_of_mem _ mm_541) dX12_sends_40 ?_
  refine lv_iload cx.1 cx.2.1 dX12_sends_43 (lv_at hl 0 rfl) ?_
  obtain ⟨v4, e_v4, h⟩ := md_ob h
  refine md_lI (k := 121) hj cx hw (by decide) rfl rfl rfl e_v4 dX12_sends_45 ?_
  refine lv_iconst (v := 2) cx.1 cx.2.1 dX12_sends_46 (by decide) ?_
  refine lv_icmp_eq (tgt := 56) cx.1 cx.2.1 dX12_sends_47 (by decide) (fun c47 => ?_) (fun c47 => ?_)
  · have h := md_ip c47 h
    refine lv_aload_n cx.1 cx.2.1 dX12_sends_56 rfl (lv_at hl 1 rfl) ?_
    refine lv_aload_n cx.1 cx.2.1 dX12_sends_57 rfl (lv_at hl 1 rfl) ?_
    refine md_gR (k := 96) cx hw hin12c (by decide) (by decide) (List.mem_cons_of_mem _ mm_593) dX12_sends_58 ?_
    refine lv_aload_n cx.1 cx.2.1 dX12_sends_61 rfl (lv_at hl 1 rfl) ?_
    refine md_gR (k := 122) cx hw hin12c (by decide) (by decide) (List.mem_cons_of_mem _ mm_542) dX12_sends_62 ?_
    refine lv_iload cx.1 cx.2.1 dX12_sends_65 (lv_at hl 0 rfl) ?_
    obtain ⟨v5, e_v5, h⟩ := md_ob h
    refine md_lI (k := 122) hj cx hw (by decide) rfl rfl rfl e_v5 dX12_sends_67 ?_
    obtain ⟨v6, e_v6, h⟩ := md_ob h
    refine md_lI (k := 96) hj cx hw (by decide) rfl rfl rfl e_v6 dX12_sends_68 ?_
    refine lv_lload_n cx.1 cx.2.1 dX12_sends_69 rfl (lv_at hl 2 rfl) ?_
    refine lv_iload_n cx.1 cx.2.1 dX12_sends_70 rfl (lv_at hl 3 rfl) ?_
    obtain ⟨p7, e_p7, h⟩ := md_ob h
    refine hp_callVi (As := [.int v6, .long a1, .int a3]) (rest := []) cx hw (km_X12_methodOf l D cA E _ ad hj hE n σ3 v6 a1 a3 p7 e_p7) (cwV 3 cx.2.2.2.2.2.1 (md_giV mm_638 mm_639 mm_640 mm_5 mm_641) rfl rfl rfl hd_X12_methodOf ⟨Nat.le_of_ble_eq_true rfl, Nat.le_of_ble_eq_true rfl⟩) md_at0 rfl rfl hl.1 rfl (Nat.le_of_ble_eq_true rfl) dX12_sends_71 ⟨Nat.le_refl _, Nat.le_refl _⟩ (fun r u H locs hp hw => ?_)
    obtain ⟨rfl, rfl⟩ := hp
    refine lv_istore (lv' := [(5, .int p7.1), (4, .int (((((9000 : Int32) * (mI σ0 127)) + v1) - a3) - 1)), (0, .ref (ad 137)), (1, .long a1), (3, .int a3)]) cx.1 cx.2.1 dX12_sends_74 hl (by decide) rfl (fun ls hl => ?_)
    refine lv_iload cx.1 cx.2.1 dX12_sends_76 (lv_at hl 0 rfl) ?_
    refine lv_iconst (v := (-1)) cx.1 cx.2.1 dX12_sends_78 (by decide) ?_
    refine lv_icmp_ne (tgt := 88) cx.1 cx.2.1 dX12_sends_79 (by decide) (fun c79 => ?_) (fun c79 => ?_)
    · have h := md_in c79 h
      refine lv_aload_n cx.1 cx.2.1 dX12_sends_88 rfl (lv_at hl 2 rfl) ?_
      refine lv_aload_n cx.1 cx.2.1 dX12_sends_89 rfl (lv_at hl 2 rfl) ?_
      refine md_gI (k := 127) cx hw hin12c rfl (by decide) (List.mem_cons_of_mem _ mm_538) dX12_sends_90 ?_
      refine lv_iload cx.1 cx.2.1 dX12_sends_93 (lv_at hl 0 rfl) ?_
      refine lv_iconst (v := 0) cx.1 cx.2.1 dX12_sends_95 (by decide) ?_
      obtain ⟨p8, e_p8, h⟩ := md_ob h
      refine hp_callVi (As := [.int (mI p7.2 127), .int p7.1, .int 0]) (rest := []) cx hw (km_X12_begin l D cA E _ ad hj hE n p7.2 ((mI p7.2 127)) (p7.1) (0 : Int32) p8 e_p8) (cwV 3 cx.2.2.2.2.2.1 (md_giV mm_617 mm_618 mm_619 mm_5 mm_620) rfl rfl rfl hd_X12_begin ⟨Nat.le_of_ble_eq_true rfl, Nat.le_of_ble_eq_true rfl⟩) md_at0 rfl rfl hl.1 rfl (Nat.le_of_ble_eq_true rfl) dX12_sends_96 ⟨Nat.le_refl _, Nat.le_refl _⟩ (fun r u H locs hp hw => ?_)
      obtain ⟨rfl, rfl⟩ := hp
      refine lv_if_eq (tgt := 151) cx.1 cx.2.1 dX12_sends_99 (by decide) (fun c99 => ?_) (fun c99 => ?_)
      · have h := md_ip c99 h
        exact hp_vret cx hw (md_retv h) dX12_sends_151
      · have h := md_in c99 h
        refine lv_iconst (v := 0) cx.1 cx.2.1 dX12_sends_102 (by decide) ?_
        refine lv_istore (lv' := [(6, .int 0), (5, .int p7.1), (4, .int (((((9000 : Int32) * (mI σ0 127)) + v1) - a3) - 1)), (0, .ref (ad 137)), (1, .long a1), (3, .int a3)]) cx.1 cx.2.1 dX12_sends_103 hl (by decide) rfl (fun ls hl => ?_)
        have L105 : ∀ (j : Nat) (σ : md_S) (l3 : Int32) (l4 : Int32) (l6 : Int32) (q : (md_S × Int32)) (H : Heap) (locs : List Loc) (ls : Array Slot), f_X12_sends_L105 n l3 l4 j σ l6 = some q → hp_w D vwCl (hp_Tl cA) E (hp_A (md_pic cA ad σ0) sz) ss H locs (md_pic cA ad σ) → lv_has ls 7 [(0, .ref (ad 137)), (3, .int l3), (4, .int l4), (6, .int l6)] → (∀ (H : Heap) (locs : List Loc) (ls : Array Slot), hp_w D vwCl (hp_Tl cA) E (hp_A (md_pic cA ad σ0) sz) ss H locs (md_pic cA ad q.1) → lv_has ls 7 [] → W pp l ee ({ frames := 3, cells := 0, slots := 0, locals := 78 }) ss mm [.ref (ad 137), .long a1, .int a3].toArray bb mt cd H locs 0 0 (MQ bb (hp_Qv D vwCl (hp_Tl cA) sz (md_pic cA ad σ0) (fun u => u = md_pic cA ad p.2)) [.ref (ad 137), .long a1, .int a3].toArray ss 0 0 (hp_A (md_pic cA ad σ0) sz)) (F0 mm 151 ls [])) → W pp l ee ({ frames := 3, cells := 0, slots := 0, locals := 78 }) ss mm [.ref (ad 137), .long a1, .int a3].toArray bb mt cd H locs 0 0 (MQ bb (hp_Qv D vwCl (hp_Tl cA) sz (md_pic cA ad σ0) (fun u => u = md_pic cA ad p.2)) [.ref (ad 137), .long a1, .int a3].toArray ss 0 0 (hp_A (md_pic cA ad σ0) sz)) (F0 mm 105 ls []) := by
          intro j
          induction j with
          | zero => intro σ l3 l4 l6 q H locs ls h; exact nomatch h
          | succ j ih =>
            intro σ l3 l4 l6 q H locs ls h hw hl K
            refine lv_iload cx.1 cx.2.1 dX12_sends_105 (lv_at hl 3 rfl) ?_
            refine lv_iload_n cx.1 cx.2.1 dX12_sends_107 rfl (lv_at hl 1 rfl) ?_
            refine lv_icmp_gt (tgt := 151) cx.1 cx.2.1 dX12_sends_108 (by decide) (fun c108 => ?_) (fun c108 => ?_)
            · have h := md_ip c108 h
              obtain rfl := Option.some.inj h
              exact K _ _ _ hw (lv_sub hl [] rfl)
            · have h := md_in c108 h
              refine lv_aload_n cx.1 cx.2.1 dX12_sends_111 rfl (lv_at hl 0 rfl) ?_
              refine lv_aload_n cx.1 cx.2.1 dX12_sends_112 rfl (lv_at hl 0 rfl) ?_
              refine md_gI (k := 127) cx hw hin12c rfl (by decide) (List.mem_cons_of_mem _ mm_538) dX12_sends_113 ?_
              refine lv_aload_n cx.1 cx.2.1 dX12_sends_116 rfl (lv_at hl 0 rfl) ?_
              obtain ⟨p9, e_p9, h⟩ := md_ob h
              refine hp_callVi (As := []) (rest := [.int (mI σ 127), .ref (ad 137)]) cx hw (km_X12_frameAt l D cA E _ ad hj hE n σ  p9 e_p9) (cwV 0 cx.2.2.2.2.2.1 (md_giV mm_551 mm_552 mm_553 mm_5 mm_554) rfl rfl rfl hd_X12_frameAt ⟨Nat.le_of_ble_eq_true rfl, Nat.le_of_ble_eq_true rfl⟩) md_at0 rfl rfl hl.1 rfl (Nat.le_of_ble_eq_true rfl) dX12_sends_117 ⟨Nat.le_refl _, Nat.le_refl _⟩ (fun r u H locs hp hw => ?_)
              obtain ⟨rfl, rfl⟩ := hp
              refine lv_iload cx.1 cx.2.1 dX12_sends_120 (lv_at hl 3 rfl) ?_
              refine lv_aload_n cx.1 cx.2.1 dX12_sends_122 rfl (lv_at hl 0 rfl) ?_
              refine md_gR (k := 121) cx hw hin12c (by decide) (by decide) (List.mem_cons_of_mem _ mm_541) dX12_sends_123 ?_
              refine lv_iload cx.1 cx.2.1 dX12_sends_126 (lv_at hl 2 rfl) ?_
              refine lv_iload cx.1 cx.2.1 dX12_sends_128 (lv_at hl 3 rfl) ?_
              refine lv_iadd cx.1 cx.2.1 dX12_sends_130 ?_
              obtain ⟨v10, e_v10, h⟩ := md_ob h
              refine md_lI (k := 121) hj cx hw (by decide) rfl rfl rfl e_v10 dX12_sends_131 ?_
              refine lv_aload_n cx.1 cx.2.1 dX12_sends_132 rfl (lv_at hl 0 rfl) ?_
              refine md_gR (k := 122) cx hw hin12c (by decide) (by decide) (List.mem_cons_of_mem _ mm_542) dX12_sends_133 ?_
              refine lv_iload cx.1 cx.2.1 dX12_sends_136 (lv_at hl 2 rfl) ?_
              refine lv_iload cx.1 cx.2.1 dX12_sends_138 (lv_at hl 3 rfl) ?_
              refine lv_iadd cx.1 cx.2.1 dX12_sends_140 ?_
              obtain ⟨v11, e_v11, h⟩ := md_ob h
              refine md_lI (k := 122) hj cx hw (by decide) rfl rfl rfl e_v11 dX12_sends_141 ?_
              obtain ⟨p12, e_p12, h⟩ := md_ob h
              refine hp_callVv (As := [.int (mI σ 127), .int p9.1, .int l6, .int v10, .int v11]) (rest := []) cx hw (km_X12_setLocal l D cA E _ ad hj hE n p9.2 ((mI σ 127)) (p9.1) l6 v10 v11 p12 e_p12) (cwV 5 cx.2.2.2.2.2.1 (md_giV mm_589 mm_590 mm_591 mm_5 mm_592) rfl rfl rfl hd_X12_setLocal ⟨Nat.le_of_ble_eq_true rfl, Nat.le_of_ble_eq_true rfl⟩) md_at0 rfl rfl hl.1 rfl (Nat.le_of_ble_eq_true rfl) dX12_sends_142 ⟨Nat.le_refl _, Nat.le_refl _⟩ (fun u H locs hp hw => ?_)
              obtain rfl := hp
              refine lv_iinc (v := (l6 + 1)) (lv' := [(6, .int (l6 + 1)), (0, .ref (ad 137)), (3, .int l3), (4, .int l4)]) cx.1 cx.2.1 dX12_sends_145 hl (k := 3) rfl rfl (by decide) rfl (fun ls hl => ?_)
              refine lv_goto (tgt := 105) cx.1 cx.2.1 dX12_sends_148 (by decide) ?_
              exact ih p12.2 l3 l4 ((l6 + 1)) q _ _ _ h hw (lv_sub hl [1, 2, 3, 0] rfl) K
        obtain ⟨q13, e_q13, h⟩ := md_ob h
        refine L105 n p8.2 a3 ((((((9000 : Int32) * (mI σ0 127)) + v1) - a3) - 1)) 0 q13 _ _ _ e_q13 hw (lv_sub hl [3, 5, 2, 0] rfl) (fun H locs ls hw hl => ?_)
        exact hp_vret cx hw (md_retv h) dX12_sends_151
    · have h := md_ip c79 h
      refine lv_aload_n cx.1 cx.2.1 dX12_sends_82 rfl (lv_at hl 2 rfl) ?_
      refine lv_iconst (v := 2) cx.1 cx.2.1 dX12_sends_83 (by decide) ?_
      obtain ⟨p14, e_p14, h⟩ := md_ob h
      refine hp_callVv (As := [.int 2]) (rest := []) cx hw (km_X12_failure l D cA E _ ad hj hE n p7.2 (2 : Int32) p14 e_p14) (cwV 1 cx.2.2.2.2.2.1 (md_giV mm_575 mm_576 mm_577 mm_5 mm_578) rfl rfl rfl hd_X12_failure ⟨Nat.le_of_ble_eq_true rfl, Nat.le_of_ble_eq_true rfl⟩) md_at0 rfl rfl hl.1 rfl (Nat.le_of_ble_eq_true rfl) dX12_sends_84 ⟨Nat.le_refl _, Nat.le_refl _⟩ (fun u H locs hp hw => ?_)
      obtain rfl := hp
      exact hp_vret cx hw (md_retv h) dX12_sends_87
  · have h := md_in c47 h
    refine lv_aload_n cx.1 cx.2.1 dX12_sends_50 rfl (lv_at hl 1 rfl) ?_
    refine lv_iconst (v := 3) cx.1 cx.2.1 dX12_sends_51 (by decide) ?_
    obtain ⟨p15, e_p15, h⟩ := md_ob h
    refine hp_callVv (As := [.int 3]) (rest := []) cx hw (km_X12_failure l D cA E _ ad hj hE n σ3 (3 : Int32) p15 e_p15) (cwV 1 cx.2.2.2.2.2.1 (md_giV mm_575 mm_576 mm_577 mm_5 mm_578) rfl rfl rfl hd_X12_failure ⟨Nat.le_of_ble_eq_true rfl, Nat.le_of_ble_eq_true rfl⟩) md_at0 rfl rfl hl.1 rfl (Nat.le_of_ble_eq_true rfl) dX12_sends_52 ⟨Nat.le_refl _, Nat.le_refl _⟩ (fun u H locs hp hw => ?_)
    obtain rfl := hp
    exact hp_vret cx hw (md_retv h) dX12_sends_55
set_option maxHeartbeats 4000000 in
set_option maxRecDepth 100000 in
theorem km_X12_stepField (l : Launch) (D : va_G) (cA : Nat → ClassId) (E : hp_N) (sz : Nat) (ad : Nat → Nat) (hj : md_inj ad) (hE : md_E E) (n : Nat) (σ0 : md_S) (a1 : Int32) (a2 : Int64) (p : (Int32 × md_S)) (h : f_X12_stepField n σ0 a1 a2 = some p) : Met l yX12_stepField (Cond.code yX12_stepField cX12_stepField 9 none :: v_MOD) ({ frames := 2, cells := 0, slots := 0, locals := 48 }) (hp_Pc D vwCl (hp_Tl cA) E sz (md_pic cA ad σ0) [.ref (ad 137), .int a1, .long a2]) (hp_Qv D vwCl (hp_Tl cA) sz (md_pic cA ad σ0) (fun u => u = md_pic cA ad p.2)) 0 0 (hp_A (md_pic cA ad σ0) sz) := by
  refine hp_ofW (cc := cX12_stepField) (maxL := 9) (ret := none) (by decide) rfl (Nat.le_of_ble_eq_true rfl) ?_
  intro pp ee ss mm bb mt cd ls cx hsz hw hl
  have hl : lv_has ls 9 [(0, .ref (ad 137)), (1, .int a1), (2, .long a2)] := hl
  have J106 : ∀ (σ : md_S) (l8 : Int32) (H : Heap) (locs : List Loc) (ls : Array Slot), f_X12_stepField_J106 n σ l8 = some p → hp_w D vwCl (hp_Tl cA) E (hp_A (md_pic cA ad σ0) sz) ss H locs (md_pic cA ad σ) → lv_has ls 9 [(0, .ref (ad 137)), (8, .int l8)] → W pp l ee ({ frames := 2, cells := 0, slots := 0, locals := 48 }) ss mm [.ref (ad 137), .int a1, .long a2].toArray bb mt cd H locs 0 0 (MQ bb (hp_Qv D vwCl (hp_Tl cA) sz (md_pic cA ad σ0) (fun u => u = md_pic cA ad p.2)) [.ref (ad 137), .int a1, .long a2].toArray ss 0 0 (hp_A (md_pic cA ad σ0) sz)) (F0 mm 106 ls []) := by
    intro σ l8 H locs ls h hw hl
    refine lv_aload_n cx.1 cx.2.1 dX12_stepField_106 rfl (lv_at hl 0 rfl) ?_
    refine lv_aload_n cx.1 cx.2.1 dX12_stepField_107 rfl (lv_at hl 0 rfl) ?_
    refine md_gR (k := 99) cx hw hin12c (by decide) (by decide) (List.mem_cons_of_mem _ mm_597) dX12_stepField_108 ?_
    refine lv_iload cx.1 cx.2.1 dX12_stepField_111 (lv_at hl 1 rfl) ?_
    obtain ⟨v1, e_v1, h⟩ := md_ob h
    refine md_lI (k := 99) hj cx hw (by decide) rfl rfl rfl e_v1 dX12_stepField_113 ?_
    refine lv_aload_n cx.1 cx.2.1 dX12_stepField_114 rfl (lv_at hl 0 rfl) ?_
    refine md_gR (k := 100) cx hw hin12c (by decide) (by decide) (List.mem_cons_of_mem _ mm_598) dX12_stepField_115 ?_
    refine lv_iload cx.1 cx.2.1 dX12_stepField_118 (lv_at hl 1 rfl) ?_
    obtain ⟨v2, e_v2, h⟩ := md_ob h
    refine md_lI (k := 100) hj cx hw (by decide) rfl rfl rfl e_v2 dX12_stepField_120 ?_
    obtain ⟨p3, e_p3, h⟩ := md_ob h
    refine hp_callVv (As := [.int v1, .int v2]) (rest := []) cx hw (km_X12_push l D cA E _ ad hj hE n σ v1 v2 p3 e_p3) (cwV 2 cx.2.2.2.2.2.1 (md_giV mm_558 mm_559 mm_560 mm_5 mm_561) rfl rfl rfl hd_X12_push ⟨Nat.le_of_ble_eq_true rfl, Nat.le_of_ble_eq_true rfl⟩) md_at0 rfl rfl hl.1 rfl (Nat.le_of_ble_eq_true rfl) dX12_stepField_121 ⟨Nat.le_refl _, Nat.le_refl _⟩ (fun u H locs hp hw => ?_)
    obtain rfl := hp
    exact hp_vret cx hw (md_retv h) dX12_stepField_124
  have J24 : ∀ (σ : md_S) (l1 : Int32) (l2 : Int64) (l4 : Int32) (l5 : Int32) (H : Heap) (locs : List Loc) (ls : Array Slot), f_X12_stepField_J24 n σ l1 l2 l4 l5 = some p → hp_w D vwCl (hp_Tl cA) E (hp_A (md_pic cA ad σ0) sz) ss H locs (md_pic cA ad σ) → lv_has ls 9 [(0, .ref (ad 137)), (1, .int l1), (2, .long l2), (4, .int l4), (5, .int l5)] → W pp l ee ({ frames := 2, cells := 0, slots := 0, locals := 48 }) ss mm [.ref (ad 137), .int a1, .long a2].toArray bb mt cd H locs 0 0 (MQ bb (hp_Qv D vwCl (hp_Tl cA) sz (md_pic cA ad σ0) (fun u => u = md_pic cA ad p.2)) [.ref (ad 137), .int a1, .long a2].toArray ss 0 0 (hp_A (md_pic cA ad σ0) sz)) (F0 mm 24 ls []) := by
    intro σ l1 l2 l4 l5 H locs ls h hw hl
    refine lv_aload_n cx.1 cx.2.1 dX12_stepField_24 rfl (lv_at hl 0 rfl) ?_
    obtain ⟨p4, e_p4, h⟩ := md_ob h
    refine hp_callVi (As := []) (rest := []) cx hw (km_X12_pop l D cA E _ ad hj hE n σ  p4 e_p4) (cwV 0 cx.2.2.2.2.2.1 (md_giV mm_613 mm_614 mm_615 mm_5 mm_616) rfl rfl rfl hd_X12_pop ⟨Nat.le_of_ble_eq_true rfl, Nat.le_of_ble_eq_true rfl⟩) md_at0 rfl rfl hl.1 rfl (Nat.le_of_ble_eq_true rfl) dX12_stepField_25 ⟨Nat.le_refl _, Nat.le_refl _⟩ (fun r u H locs hp hw => ?_)
    obtain ⟨rfl, rfl⟩ := hp
    refine lv_iconst (v := 2) cx.1 cx.2.1 dX12_stepField_28 (by decide) ?_
    refine lv_icmp_eq (tgt := 38) cx.1 cx.2.1 dX12_stepField_29 (by decide) (fun c29 => ?_) (fun c29 => ?_)
    · have h := md_ip c29 h
      refine lv_aload_n cx.1 cx.2.1 dX12_stepField_38 rfl (lv_at hl 0 rfl) ?_
      refine md_gI (k := 135) cx hw hin12c rfl (by decide) (List.mem_cons_of_mem _ mm_543) dX12_stepField_39 ?_
      refine lv_istore (lv' := [(6, .int (mI p4.2 135)), (0, .ref (ad 137)), (1, .int l1), (2, .long l2), (4, .int l4), (5, .int l5)]) cx.1 cx.2.1 dX12_stepField_42 hl (by decide) rfl (fun ls hl => ?_)
      refine lv_aload_n cx.1 cx.2.1 dX12_stepField_44 rfl (lv_at hl 1 rfl) ?_
      refine lv_aload_n cx.1 cx.2.1 dX12_stepField_45 rfl (lv_at hl 1 rfl) ?_
      refine md_gR (k := 96) cx hw hin12c (by decide) (by decide) (List.mem_cons_of_mem _ mm_593) dX12_stepField_46 ?_
      refine lv_iload cx.1 cx.2.1 dX12_stepField_49 (lv_at hl 0 rfl) ?_
      obtain ⟨v5, e_v5, h⟩ := md_ob h
      refine md_lI (k := 96) hj cx hw (by decide) rfl rfl rfl e_v5 dX12_stepField_51 ?_
      refine lv_lload_n cx.1 cx.2.1 dX12_stepField_52 rfl (lv_at hl 3 rfl) ?_
      obtain ⟨p6, e_p6, h⟩ := md_ob h
      refine hp_callVi (As := [.int v5, .long l2]) (rest := []) cx hw (km_X12_fieldOf l D cA E _ ad hj hE n p4.2 v5 l2 p6 e_p6) (cwV 2 cx.2.2.2.2.2.1 (md_giV mm_177 mm_178 mm_179 mm_5 mm_180) rfl rfl rfl hd_X12_fieldOf ⟨Nat.le_of_ble_eq_true rfl, Nat.le_of_ble_eq_true rfl⟩) md_at0 rfl rfl hl.1 rfl (Nat.le_of_ble_eq_true rfl) dX12_stepField_53 ⟨Nat.le_refl _, Nat.le_refl _⟩ (fun r u H locs hp hw => ?_)
      obtain ⟨rfl, rfl⟩ := hp
      refine lv_istore (lv' := [(7, .int p6.1), (6, .int (mI p4.2 135)), (0, .ref (ad 137)), (1, .int l1), (2, .long l2), (4, .int l4), (5, .int l5)]) cx.1 cx.2.1 dX12_stepField_56 hl (by decide) rfl (fun ls hl => ?_)
      refine lv_iload cx.1 cx.2.1 dX12_stepField_58 (lv_at hl 0 rfl) ?_
      refine lv_iconst (v := (-1)) cx.1 cx.2.1 dX12_stepField_60 (by decide) ?_
      refine lv_icmp_ne (tgt := 70) cx.1 cx.2.1 dX12_stepField_61 (by decide) (fun c61 => ?_) (fun c61 => ?_)
      · have h := md_in c61 h
        refine lv_aload_n cx.1 cx.2.1 dX12_stepField_70 rfl (lv_at hl 2 rfl) ?_
        refine md_gR (k := 97) cx hw hin12c (by decide) (by decide) (List.mem_cons_of_mem _ mm_595) dX12_stepField_71 ?_
        refine lv_iload cx.1 cx.2.1 dX12_stepField_74 (lv_at hl 1 rfl) ?_
        obtain ⟨v7, e_v7, h⟩ := md_ob h
        refine md_lI (k := 97) hj cx hw (by decide) rfl rfl rfl e_v7 dX12_stepField_76 ?_
        refine lv_iload cx.1 cx.2.1 dX12_stepField_77 (lv_at hl 0 rfl) ?_
        refine lv_iadd cx.1 cx.2.1 dX12_stepField_79 ?_
        refine lv_istore (lv' := [(8, .int (v7 + p6.1)), (7, .int p6.1), (6, .int (mI p4.2 135)), (0, .ref (ad 137)), (1, .int l1), (2, .long l2), (4, .int l4), (5, .int l5)]) cx.1 cx.2.1 dX12_stepField_80 hl (by decide) rfl (fun ls hl => ?_)
        refine lv_iload_n cx.1 cx.2.1 dX12_stepField_82 rfl (lv_at hl 4 rfl) ?_
        refine lv_bipush (v := 6) cx.1 cx.2.1 dX12_stepField_83 (by decide) ?_
        refine lv_icmp_ne (tgt := 106) cx.1 cx.2.1 dX12_stepField_85 (by decide) (fun c85 => ?_) (fun c85 => ?_)
        · have h := md_in c85 h
          exact J106 p6.2 ((v7 + p6.1)) _ _ _ h hw (lv_sub hl [3, 0] rfl)
        · have h := md_ip c85 h
          refine lv_aload_n cx.1 cx.2.1 dX12_stepField_88 rfl (lv_at hl 3 rfl) ?_
          refine md_gR (k := 99) cx hw hin12c (by decide) (by decide) (List.mem_cons_of_mem _ mm_597) dX12_stepField_89 ?_
          refine lv_iload cx.1 cx.2.1 dX12_stepField_92 (lv_at hl 0 rfl) ?_
          refine lv_iload cx.1 cx.2.1 dX12_stepField_94 (lv_at hl 6 rfl) ?_
          obtain ⟨σ8, e_σ8, h⟩ := md_ob h
          refine md_sI (k := 99) hj cx hw (by decide) rfl rfl rfl e_σ8 dX12_stepField_96 (fun H locs hw => ?_)
          refine lv_aload_n cx.1 cx.2.1 dX12_stepField_97 rfl (lv_at hl 3 rfl) ?_
          refine md_gR (k := 100) cx hw hin12c (by decide) (by decide) (List.mem_cons_of_mem _ mm_598) dX12_stepField_98 ?_
          refine lv_iload cx.1 cx.2.1 dX12_stepField_101 (lv_at hl 0 rfl) ?_
          refine lv_iload cx.1 cx.2.1 dX12_stepField_103 (lv_at hl 7 rfl) ?_
          obtain ⟨σ9, e_σ9, h⟩ := md_ob h
          refine md_sI (k := 100) hj cx hw (by decide) rfl rfl rfl e_σ9 dX12_stepField_105 (fun H locs hw => ?_)
          exact J106 σ9 ((v7 + p6.1)) _ _ _ h hw (lv_sub hl [3, 0] rfl)
      · have h := md_ip c61 h
        refine lv_aload_n cx.1 cx.2.1 dX12_stepField_64 rfl (lv_at hl 2 rfl) ?_
        refine lv_iconst (v := 2) cx.1 cx.2.1 dX12_stepField_65 (by decide) ?_
        obtain ⟨p10, e_p10, h⟩ := md_ob h
        refine hp_callVv (As := [.int 2]) (rest := []) cx hw (km_X12_failure l D cA E _ ad hj hE n p6.2 (2 : Int32) p10 e_p10) (cwV 1 cx.2.2.2.2.2.1 (md_giV mm_575 mm_576 mm_577 mm_5 mm_578) rfl rfl rfl hd_X12_failure ⟨Nat.le_of_ble_eq_true rfl, Nat.le_of_ble_eq_true rfl⟩) md_at0 rfl rfl hl.1 rfl (Nat.le_of_ble_eq_true rfl) dX12_stepField_66 ⟨Nat.le_refl _, Nat.le_refl _⟩ (fun u H locs hp hw => ?_)
        obtain rfl := hp
        exact hp_vret cx hw (md_retv h) dX12_stepField_69
    · have h := md_in c29 h
      refine lv_aload_n cx.1 cx.2.1 dX12_stepField_32 rfl (lv_at hl 0 rfl) ?_
      refine lv_iconst (v := 3) cx.1 cx.2.1 dX12_stepField_33 (by decide) ?_
      obtain ⟨p11, e_p11, h⟩ := md_ob h
      refine hp_callVv (As := [.int 3]) (rest := []) cx hw (km_X12_failure l D cA E _ ad hj hE n p4.2 (3 : Int32) p11 e_p11) (cwV 1 cx.2.2.2.2.2.1 (md_giV mm_575 mm_576 mm_577 mm_5 mm_578) rfl rfl rfl hd_X12_failure ⟨Nat.le_of_ble_eq_true rfl, Nat.le_of_ble_eq_true rfl⟩) md_at0 rfl rfl hl.1 rfl (Nat.le_of_ble_eq_true rfl) dX12_stepField_34 ⟨Nat.le_refl _, Nat.le_refl _⟩ (fun u H locs hp hw => ?_)
      obtain rfl := hp
      exact hp_vret cx hw (md_retv h) dX12_stepField_37
  refine lv_iconst (v := 1) cx.1 cx.2.1 dX12_stepField_0 (by decide) ?_
  refine lv_istore (lv' := [(4, .int 1), (0, .ref (ad 137)), (1, .int a1), (2, .long a2)]) cx.1 cx.2.1 dX12_stepField_1 hl (by decide) rfl (fun ls hl => ?_)
  refine lv_iconst (v := 0) cx.1 cx.2.1 dX12_stepField_3 (by decide) ?_
  refine lv_istore (lv' := [(5, .int 0), (4, .int 1), (0, .ref (ad 137)), (1, .int a1), (2, .long a2)]) cx.1 cx.2.1 dX12_stepField_4 hl (by decide) rfl (fun ls hl => ?_)
  refine lv_iload_n cx.1 cx.2.1 dX12_stepField_6 rfl (lv_at hl 3 rfl) ?_
  refine lv_bipush (v := 6) cx.1 cx.2.1 dX12_stepField_7 (by decide) ?_
  refine lv_icmp_ne (tgt := 24) cx.1 cx.2.1 dX12_stepField_9 (by decide) (fun c9 => ?_) (fun c9 => ?_)
  · have h := md_in c9 h
    exact J24 σ0 a1 a2 1 0 _ _ _ h hw (lv_sub hl [2, 3, 4, 1, 0] rfl)
  · have h := md_ip c9 h
    refine lv_aload_n cx.1 cx.2.1 dX12_stepField_12 rfl (lv_at hl 2 rfl) ?_
    obtain ⟨p12, e_p12, h⟩ := md_ob h
    refine hp_callVi (As := []) (rest := []) cx hw (km_X12_pop l D cA E _ ad hj hE n σ0  p12 e_p12) (cwV 0 cx.2.2.2.2.2.1 (md_giV mm_613 mm_614 mm_615 mm_5 mm_616) rfl rfl rfl hd_X12_pop ⟨Nat.le_of_ble_eq_true rfl, Nat.le_of_ble_eq_true rfl⟩) md_at0 rfl rfl hl.1 rfl (Nat.le_of_ble_eq_true rfl) dX12_stepField_13 ⟨Nat.le_refl _, Nat.le_refl _⟩ (fun r u H locs hp hw => ?_)
    obtain ⟨rfl, rfl⟩ := hp
    refine lv_istore (lv' := [(4, .int p12.1), (5, .int 0), (0, .ref (ad 137)), (1, .int a1), (2, .long a2)]) cx.1 cx.2.1 dX12_stepField_16 hl (by decide) rfl (fun ls hl => ?_)
    refine lv_aload_n cx.1 cx.2.1 dX12_stepField_18 rfl (lv_at hl 2 rfl) ?_
    refine md_gI (k := 135) cx hw hin12c rfl (by decide) (List.mem_cons_of_mem _ mm_543) dX12_stepField_19 ?_
    refine lv_istore (lv' := [(5, .int (mI p12.2 135)), (4, .int p12.1), (0, .ref (ad 137)), (1, .int a1), (2, .long a2)]) cx.1 cx.2.1 dX12_stepField_22 hl (by decide) rfl (fun ls hl => ?_)
    exact J24 p12.2 a1 a2 (p12.1) ((mI p12.2 135)) _ _ _ h hw (lv_sub hl [2, 3, 4, 1, 0] rfl)
set_option maxHeartbeats 4000000 in
set_option maxRecDepth 100000 in
theorem km_X12_stepPart (l : Launch) (D : va_G) (cA : Nat → ClassId) (E : hp_N) (sz : Nat) (ad : Nat → Nat) (hj : md_inj ad) (hE : md_E E) (n : Nat) (σ0 : md_S) (a1 : Int32) (p : (Int32 × md_S)) (h : f_X12_stepPart n σ0 a1 = some p) : Met l yX12_stepPart (Cond.code yX12_stepPart cX12_stepPart 5 none :: v_MOD) ({ frames := 3, cells := 0, slots := 0, locals := 78 }) (hp_Pc D vwCl (hp_Tl cA) E sz (md_pic cA ad σ0) [.ref (ad 137), .int a1]) (hp_Qv D vwCl (hp_Tl cA) sz (md_pic cA ad σ0) (fun u => u = md_pic cA ad p.2)) 0 0 (hp_A (md_pic cA ad σ0) sz) := by
  refine hp_ofW (cc := cX12_stepPart) (maxL := 5) (ret := none) (by decide) rfl (Nat.le_of_ble_eq_true rfl) ?_
  intro pp ee ss mm bb mt cd ls cx hsz hw hl
  have hl : lv_has ls 5 [(0, .ref (ad 137)), (1, .int a1)] := hl
  have J68 : ∀ (σ : md_S) (l1 : Int32) (l2 : Int32) (l3 : Int32) (H : Heap) (locs : List Loc) (ls : Array Slot), f_X12_stepPart_J68 n σ l1 l2 l3 = some p → hp_w D vwCl (hp_Tl cA) E (hp_A (md_pic cA ad σ0) sz) ss H locs (md_pic cA ad σ) → lv_has ls 5 [(0, .ref (ad 137)), (1, .int l1), (2, .int l2), (3, .int l3)] → W pp l ee ({ frames := 3, cells := 0, slots := 0, locals := 78 }) ss mm [.ref (ad 137), .int a1].toArray bb mt cd H locs 0 0 (MQ bb (hp_Qv D vwCl (hp_Tl cA) sz (md_pic cA ad σ0) (fun u => u = md_pic cA ad p.2)) [.ref (ad 137), .int a1].toArray ss 0 0 (hp_A (md_pic cA ad σ0) sz)) (F0 mm 68 ls []) := by
    intro σ l1 l2 l3 H locs ls h hw hl
    refine lv_aload_n cx.1 cx.2.1 dX12_stepPart_68 rfl (lv_at hl 0 rfl) ?_
    refine lv_aload_n cx.1 cx.2.1 dX12_stepPart_69 rfl (lv_at hl 0 rfl) ?_
    refine md_gI (k := 127) cx hw hin12c rfl (by decide) (List.mem_cons_of_mem _ mm_538) dX12_stepPart_70 ?_
    refine lv_iload_n cx.1 cx.2.1 dX12_stepPart_73 rfl (lv_at hl 1 rfl) ?_
    refine lv_iload_n cx.1 cx.2.1 dX12_stepPart_74 rfl (lv_at hl 3 rfl) ?_
    obtain ⟨p1, e_p1, h⟩ := md_ob h
    refine hp_callVi (As := [.int (mI σ 127), .int l1, .int l3]) (rest := []) cx hw (km_X12_begin l D cA E _ ad hj hE n σ ((mI σ 127)) l1 l3 p1 e_p1) (cwV 3 cx.2.2.2.2.2.1 (md_giV mm_617 mm_618 mm_619 mm_5 mm_620) rfl rfl rfl hd_X12_begin ⟨Nat.le_of_ble_eq_true rfl, Nat.le_of_ble_eq_true rfl⟩) md_at0 rfl rfl hl.1 rfl (Nat.le_of_ble_eq_true rfl) dX12_stepPart_75 ⟨Nat.le_refl _, Nat.le_refl _⟩ (fun r u H locs hp hw => ?_)
    obtain ⟨rfl, rfl⟩ := hp
    refine lv_if_eq (tgt := 133) cx.1 cx.2.1 dX12_stepPart_78 (by decide) (fun c78 => ?_) (fun c78 => ?_)
    · have h := md_ip c78 h
      exact hp_vret cx hw (md_retv h) dX12_stepPart_133
    · have h := md_in c78 h
      refine lv_iconst (v := 0) cx.1 cx.2.1 dX12_stepPart_81 (by decide) ?_
      refine lv_istore (lv' := [(4, .int 0), (0, .ref (ad 137)), (1, .int l1), (2, .int l2), (3, .int l3)]) cx.1 cx.2.1 dX12_stepPart_82 hl (by decide) rfl (fun ls hl => ?_)
      have L84 : ∀ (j : Nat) (σ : md_S) (l1 : Int32) (l2 : Int32) (l4 : Int32) (q : (md_S × Int32)) (H : Heap) (locs : List Loc) (ls : Array Slot), f_X12_stepPart_L84 n l1 l2 j σ l4 = some q → hp_w D vwCl (hp_Tl cA) E (hp_A (md_pic cA ad σ0) sz) ss H locs (md_pic cA ad σ) → lv_has ls 5 [(0, .ref (ad 137)), (1, .int l1), (2, .int l2), (4, .int l4)] → (∀ (H : Heap) (locs : List Loc) (ls : Array Slot), hp_w D vwCl (hp_Tl cA) E (hp_A (md_pic cA ad σ0) sz) ss H locs (md_pic cA ad q.1) → lv_has ls 5 [] → W pp l ee ({ frames := 3, cells := 0, slots := 0, locals := 78 }) ss mm [.ref (ad 137), .int a1].toArray bb mt cd H locs 0 0 (MQ bb (hp_Qv D vwCl (hp_Tl cA) sz (md_pic cA ad σ0) (fun u => u = md_pic cA ad p.2)) [.ref (ad 137), .int a1].toArray ss 0 0 (hp_A (md_pic cA ad σ0) sz)) (F0 mm 133 ls [])) → W pp l ee ({ frames := 3, cells := 0, slots := 0, locals := 78 }) ss mm [.ref (ad 137), .int a1].toArray bb mt cd H locs 0 0 (MQ bb (hp_Qv D vwCl (hp_Tl cA) sz (md_pic cA ad σ0) (fun u => u = md_pic cA ad p.2)) [.ref (ad 137), .int a1].toArray ss 0 0 (hp_A (md_pic cA ad σ0) sz)) (F0 mm 84 ls []) := by
        intro j
        induction j with
        | zero => intro σ l1 l2 l4 q H locs ls h; exact nomatch h
        | succ j ih =>
          intro σ l1 l2 l4 q H locs ls h hw hl K
          refine lv_iload cx.1 cx.2.1 dX12_stepPart_84 (lv_at hl 3 rfl) ?_
          refine lv_aload_n cx.1 cx.2.1 dX12_stepPart_86 rfl (lv_at hl 0 rfl) ?_
          refine md_gR (k := 44) cx hw hin12c (by decide) (by decide) (List.mem_cons_of_mem _ mm_246) dX12_stepPart_87 ?_
          refine lv_iload_n cx.1 cx.2.1 dX12_stepPart_90 rfl (lv_at hl 1 rfl) ?_
          obtain ⟨v2, e_v2, h⟩ := md_ob h
          refine md_lI (k := 44) hj cx hw (by decide) rfl rfl rfl e_v2 dX12_stepPart_91 ?_
          refine lv_icmp_ge (tgt := 133) cx.1 cx.2.1 dX12_stepPart_92 (by decide) (fun c92 => ?_) (fun c92 => ?_)
          · have h := md_ip c92 h
            obtain rfl := Option.some.inj h
            exact K _ _ _ hw (lv_sub hl [] rfl)
          · have h := md_in c92 h
            refine lv_aload_n cx.1 cx.2.1 dX12_stepPart_95 rfl (lv_at hl 0 rfl) ?_
            refine lv_aload_n cx.1 cx.2.1 dX12_stepPart_96 rfl (lv_at hl 0 rfl) ?_
            refine md_gI (k := 127) cx hw hin12c rfl (by decide) (List.mem_cons_of_mem _ mm_538) dX12_stepPart_97 ?_
            refine lv_aload_n cx.1 cx.2.1 dX12_stepPart_100 rfl (lv_at hl 0 rfl) ?_
            obtain ⟨p3, e_p3, h⟩ := md_ob h
            refine hp_callVi (As := []) (rest := [.int (mI σ 127), .ref (ad 137)]) cx hw (km_X12_frameAt l D cA E _ ad hj hE n σ  p3 e_p3) (cwV 0 cx.2.2.2.2.2.1 (md_giV mm_551 mm_552 mm_553 mm_5 mm_554) rfl rfl rfl hd_X12_frameAt ⟨Nat.le_of_ble_eq_true rfl, Nat.le_of_ble_eq_true rfl⟩) md_at0 rfl rfl hl.1 rfl (Nat.le_of_ble_eq_true rfl) dX12_stepPart_101 ⟨Nat.le_refl _, Nat.le_refl _⟩ (fun r u H locs hp hw => ?_)
            obtain ⟨rfl, rfl⟩ := hp
            refine lv_iload cx.1 cx.2.1 dX12_stepPart_104 (lv_at hl 3 rfl) ?_
            refine lv_aload_n cx.1 cx.2.1 dX12_stepPart_106 rfl (lv_at hl 0 rfl) ?_
            refine md_gR (k := 121) cx hw hin12c (by decide) (by decide) (List.mem_cons_of_mem _ mm_541) dX12_stepPart_107 ?_
            refine lv_iload_n cx.1 cx.2.1 dX12_stepPart_110 rfl (lv_at hl 2 rfl) ?_
            refine lv_iload cx.1 cx.2.1 dX12_stepPart_111 (lv_at hl 3 rfl) ?_
            refine lv_iadd cx.1 cx.2.1 dX12_stepPart_113 ?_
            obtain ⟨v4, e_v4, h⟩ := md_ob h
            refine md_lI (k := 121) hj cx hw (by decide) rfl rfl rfl e_v4 dX12_stepPart_114 ?_
            refine lv_aload_n cx.1 cx.2.1 dX12_stepPart_115 rfl (lv_at hl 0 rfl) ?_
            refine md_gR (k := 122) cx hw hin12c (by decide) (by decide) (List.mem_cons_of_mem _ mm_542) dX12_stepPart_116 ?_
            refine lv_iload_n cx.1 cx.2.1 dX12_stepPart_119 rfl (lv_at hl 2 rfl) ?_
            refine lv_iload cx.1 cx.2.1 dX12_stepPart_120 (lv_at hl 3 rfl) ?_
            refine lv_iadd cx.1 cx.2.1 dX12_stepPart_122 ?_
            obtain ⟨v5, e_v5, h⟩ := md_ob h
            refine md_lI (k := 122) hj cx hw (by decide) rfl rfl rfl e_v5 dX12_stepPart_123 ?_
            obtain ⟨p6, e_p6, h⟩ := md_ob h
            refine hp_callVv (As := [.int (mI σ 127), .int p3.1, .int l4, .int v4, .int v5]) (rest := []) cx hw (km_X12_setLocal l D cA E _ ad hj hE n p3.2 ((mI σ 127)) (p3.1) l4 v4 v5 p6 e_p6) (cwV 5 cx.2.2.2.2.2.1 (md_giV mm_589 mm_590 mm_591 mm_5 mm_592) rfl rfl rfl hd_X12_setLocal ⟨Nat.le_of_ble_eq_true rfl, Nat.le_of_ble_eq_true rfl⟩) md_at0 rfl rfl hl.1 rfl (Nat.le_of_ble_eq_true rfl) dX12_stepPart_124 ⟨Nat.le_refl _, Nat.le_refl _⟩ (fun u H locs hp hw => ?_)
            obtain rfl := hp
            refine lv_iinc (v := (l4 + 1)) (lv' := [(4, .int (l4 + 1)), (0, .ref (ad 137)), (1, .int l1), (2, .int l2)]) cx.1 cx.2.1 dX12_stepPart_127 hl (k := 3) rfl rfl (by decide) rfl (fun ls hl => ?_)
            refine lv_goto (tgt := 84) cx.1 cx.2.1 dX12_stepPart_130 (by decide) ?_
            exact ih p6.2 l1 l2 ((l4 + 1)) q _ _ _ h hw (lv_sub hl [1, 2, 3, 0] rfl) K
      obtain ⟨q7, e_q7, h⟩ := md_ob h
      refine L84 n p1.2 l1 l2 0 q7 _ _ _ e_q7 hw (lv_sub hl [1, 2, 3, 0] rfl) (fun H locs ls hw hl => ?_)
      exact hp_vret cx hw (md_retv h) dX12_stepPart_133
  refine lv_aload_n cx.1 cx.2.1 dX12_stepPart_0 rfl (lv_at hl 0 rfl) ?_
  refine md_gR (k := 120) cx hw hin12c (by decide) (by decide) (List.mem_cons_of_mem _ mm_540) dX12_stepPart_1 ?_
  refine lv_aload_n cx.1 cx.2.1 dX12_stepPart_4 rfl (lv_at hl 0 rfl) ?_
  refine md_gI (k := 127) cx hw hin12c rfl (by decide) (List.mem_cons_of_mem _ mm_538) dX12_stepPart_5 ?_
  refine lv_dup2_11 cx.1 cx.2.1 dX12_stepPart_8 rfl rfl ?_
  obtain ⟨v8, e_v8, h⟩ := md_ob h
  refine md_lI (k := 120) hj cx hw (by decide) rfl rfl rfl e_v8 dX12_stepPart_9 ?_
  refine lv_aload_n cx.1 cx.2.1 dX12_stepPart_10 rfl (lv_at hl 0 rfl) ?_
  refine md_gR (k := 44) cx hw hin12c (by decide) (by decide) (List.mem_cons_of_mem _ mm_246) dX12_stepPart_11 ?_
  refine lv_iload_n cx.1 cx.2.1 dX12_stepPart_14 rfl (lv_at hl 1 rfl) ?_
  obtain ⟨v9, e_v9, h⟩ := md_ob h
  refine md_lI (k := 44) hj cx hw (by decide) rfl rfl rfl e_v9 dX12_stepPart_15 ?_
  refine lv_isub cx.1 cx.2.1 dX12_stepPart_16 ?_
  obtain ⟨σ10, e_σ10, h⟩ := md_ob h
  refine md_sI (k := 120) hj cx hw (by decide) rfl rfl rfl e_σ10 dX12_stepPart_17 (fun H locs hw => ?_)
  refine lv_sipush (v := 9000) cx.1 cx.2.1 dX12_stepPart_18 (by decide) ?_
  refine lv_aload_n cx.1 cx.2.1 dX12_stepPart_21 rfl (lv_at hl 0 rfl) ?_
  refine md_gI (k := 127) cx hw hin12c rfl (by decide) (List.mem_cons_of_mem _ mm_538) dX12_stepPart_22 ?_
  refine lv_imul cx.1 cx.2.1 dX12_stepPart_25 ?_
  refine lv_aload_n cx.1 cx.2.1 dX12_stepPart_26 rfl (lv_at hl 0 rfl) ?_
  refine md_gR (k := 120) cx hw hin12c (by decide) (by decide) (List.mem_cons_of_mem _ mm_540) dX12_stepPart_27 ?_
  refine lv_aload_n cx.1 cx.2.1 dX12_stepPart_30 rfl (lv_at hl 0 rfl) ?_
  refine md_gI (k := 127) cx hw hin12c rfl (by decide) (List.mem_cons_of_mem _ mm_538) dX12_stepPart_31 ?_
  obtain ⟨v11, e_v11, h⟩ := md_ob h
  refine md_lI (k := 120) hj cx hw (by decide) rfl rfl rfl e_v11 dX12_stepPart_34 ?_
  refine lv_iadd cx.1 cx.2.1 dX12_stepPart_35 ?_
  refine lv_istore_n (lv' := [(2, .int (((9000 : Int32) * (mI σ10 127)) + v11)), (0, .ref (ad 137)), (1, .int a1)]) cx.1 cx.2.1 dX12_stepPart_36 rfl hl (by decide) rfl (fun ls hl => ?_)
  refine lv_iconst (v := 0) cx.1 cx.2.1 dX12_stepPart_37 (by decide) ?_
  refine lv_istore_n (lv' := [(3, .int 0), (2, .int (((9000 : Int32) * (mI σ10 127)) + v11)), (0, .ref (ad 137)), (1, .int a1)]) cx.1 cx.2.1 dX12_stepPart_38 rfl hl (by decide) rfl (fun ls hl => ?_)
  refine lv_aload_n cx.1 cx.2.1 dX12_stepPart_39 rfl (lv_at hl 2 rfl) ?_
  refine md_gR (k := 36) cx hw hin12c (by decide) (by decide) (List.mem_cons_of_mem _ mm_139) dX12_stepPart_40 ?_
  refine lv_iload_n cx.1 cx.2.1 dX12_stepPart_43 rfl (lv_at hl 3 rfl) ?_
  obtain ⟨v12, e_v12, h⟩ := md_ob h
  refine md_lI (k := 36) hj cx hw (by decide) rfl rfl rfl e_v12 dX12_stepPart_44 ?_
  refine lv_iconst (v := 4) cx.1 cx.2.1 dX12_stepPart_45 (by decide) ?_
  refine lv_icmp_ne (tgt := 68) cx.1 cx.2.1 dX12_stepPart_46 (by decide) (fun c46 => ?_) (fun c46 => ?_)
  · have h := md_in c46 h
    exact J68 σ10 a1 ((((9000 : Int32) * (mI σ10 127)) + v11)) 0 _ _ _ h hw (lv_sub hl [2, 3, 1, 0] rfl)
  · have h := md_ip c46 h
    refine lv_aload_n cx.1 cx.2.1 dX12_stepPart_49 rfl (lv_at hl 2 rfl) ?_
    obtain ⟨p13, e_p13, h⟩ := md_ob h
    refine hp_callVi (As := []) (rest := []) cx hw (km_X12_pop l D cA E _ ad hj hE n σ10  p13 e_p13) (cwV 0 cx.2.2.2.2.2.1 (md_giV mm_613 mm_614 mm_615 mm_5 mm_616) rfl rfl rfl hd_X12_pop ⟨Nat.le_of_ble_eq_true rfl, Nat.le_of_ble_eq_true rfl⟩) md_at0 rfl rfl hl.1 rfl (Nat.le_of_ble_eq_true rfl) dX12_stepPart_50 ⟨Nat.le_refl _, Nat.le_refl _⟩ (fun r u H locs hp hw => ?_)
    obtain ⟨rfl, rfl⟩ := hp
    refine lv_iconst (v := 4) cx.1 cx.2.1 dX12_stepPart_53 (by decide) ?_
    refine lv_icmp_eq (tgt := 63) cx.1 cx.2.1 dX12_stepPart_54 (by decide) (fun c54 => ?_) (fun c54 => ?_)
    · have h := md_ip c54 h
      refine lv_aload_n cx.1 cx.2.1 dX12_stepPart_63 rfl (lv_at hl 2 rfl) ?_
      refine md_gI (k := 135) cx hw hin12c rfl (by decide) (List.mem_cons_of_mem _ mm_543) dX12_stepPart_64 ?_
      refine lv_istore_n (lv' := [(3, .int (mI p13.2 135)), (2, .int (((9000 : Int32) * (mI σ10 127)) + v11)), (0, .ref (ad 137)), (1, .int a1)]) cx.1 cx.2.1 dX12_stepPart_67 rfl hl (by decide) rfl (fun ls hl => ?_)
      exact J68 p13.2 a1 ((((9000 : Int32) * (mI σ10 127)) + v11)) ((mI p13.2 135)) _ _ _ h hw (lv_sub hl [2, 3, 1, 0] rfl)
    · have h := md_in c54 h
      refine lv_aload_n cx.1 cx.2.1 dX12_stepPart_57 rfl (lv_at hl 2 rfl) ?_
      refine lv_iconst (v := 3) cx.1 cx.2.1 dX12_stepPart_58 (by decide) ?_
      obtain ⟨p14, e_p14, h⟩ := md_ob h
      refine hp_callVv (As := [.int 3]) (rest := []) cx hw (km_X12_failure l D cA E _ ad hj hE n p13.2 (3 : Int32) p14 e_p14) (cwV 1 cx.2.2.2.2.2.1 (md_giV mm_575 mm_576 mm_577 mm_5 mm_578) rfl rfl rfl hd_X12_failure ⟨Nat.le_of_ble_eq_true rfl, Nat.le_of_ble_eq_true rfl⟩) md_at0 rfl rfl hl.1 rfl (Nat.le_of_ble_eq_true rfl) dX12_stepPart_59 ⟨Nat.le_refl _, Nat.le_refl _⟩ (fun u H locs hp hw => ?_)
      obtain rfl := hp
      exact hp_vret cx hw (md_retv h) dX12_stepPart_62
set_option maxHeartbeats 4000000 in
set_option maxRecDepth 100000 in
theorem km_X12_spawns (l : Launch) (D : va_G) (cA : Nat → ClassId) (E : hp_N) (sz : Nat) (ad : Nat → Nat) (hj : md_inj ad) (hE : md_E E) (n : Nat) (σ0 : md_S) (a1 : Int32) (a2 : Int32) (p : (Int32 × md_S)) (h : f_X12_spawns n σ0 a1 a2 = some p) : Met l yX12_spawns (Cond.code yX12_spawns cX12_spawns 4 none :: v_MOD) ({ frames := 3, cells := 0, slots := 0, locals := 78 }) (hp_Pc D vwCl (hp_Tl cA) E sz (md_pic cA ad σ0) [.ref (ad 137), .int a1, .int a2]) (hp_Qv D vwCl (hp_Tl cA) sz (md_pic cA ad σ0) (fun u => u = md_pic cA ad p.2)) 0 0 (hp_A (md_pic cA ad σ0) sz) := by
  refine hp_ofW (cc := cX12_spawns) (maxL := 4) (ret := none) (by decide) rfl (Nat.le_of_ble_eq_true rfl) ?_
  intro pp ee ss mm bb mt cd ls cx hsz hw hl
  have hl : lv_has ls 4 [(0, .ref (ad 137)), (1, .int a1), (2, .int a2)] := hl
  have J103 : ∀ (σ : md_S) (l3 : Int32) (H : Heap) (locs : List Loc) (ls : Array Slot), f_X12_spawns_J103 n σ l3 = some p → hp_w D vwCl (hp_Tl cA) E (hp_A (md_pic cA ad σ0) sz) ss H locs (md_pic cA ad σ) → lv_has ls 4 [(0, .ref (ad 137)), (3, .int l3)] → W pp l ee ({ frames := 3, cells := 0, slots := 0, locals := 78 }) ss mm [.ref (ad 137), .int a1, .int a2].toArray bb mt cd H locs 0 0 (MQ bb (hp_Qv D vwCl (hp_Tl cA) sz (md_pic cA ad σ0) (fun u => u = md_pic cA ad p.2)) [.ref (ad 137), .int a1, .int a2].toArray ss 0 0 (hp_A (md_pic cA ad σ0) sz)) (F0 mm 103 ls []) := by
    intro σ l3 H locs ls h hw hl
    refine lv_aload_n cx.1 cx.2.1 dX12_spawns_103 rfl (lv_at hl 0 rfl) ?_
    refine lv_iconst (v := 0) cx.1 cx.2.1 dX12_spawns_104 (by decide) ?_
    refine lv_iload_n cx.1 cx.2.1 dX12_spawns_105 rfl (lv_at hl 1 rfl) ?_
    obtain ⟨p1, e_p1, h⟩ := md_ob h
    refine hp_callVv (As := [.int 0, .int l3]) (rest := []) cx hw (km_X12_push l D cA E _ ad hj hE n σ (0 : Int32) l3 p1 e_p1) (cwV 2 cx.2.2.2.2.2.1 (md_giV mm_558 mm_559 mm_560 mm_5 mm_561) rfl rfl rfl hd_X12_push ⟨Nat.le_of_ble_eq_true rfl, Nat.le_of_ble_eq_true rfl⟩) md_at0 rfl rfl hl.1 rfl (Nat.le_of_ble_eq_true rfl) dX12_spawns_106 ⟨Nat.le_refl _, Nat.le_refl _⟩ (fun u H locs hp hw => ?_)
    obtain rfl := hp
    refine lv_aload_n cx.1 cx.2.1 dX12_spawns_109 rfl (lv_at hl 0 rfl) ?_
    refine lv_iconst (v := 0) cx.1 cx.2.1 dX12_spawns_110 (by decide) ?_
    obtain ⟨σ2, e_σ2, h⟩ := md_ob h
    refine md_pZ (k := 128) cx hw hin12c rfl (by decide) rfl (List.mem_cons_of_mem _ mm_569) rfl (by decide) e_σ2 dX12_spawns_111 (fun H locs hw => ?_)
    exact hp_vret cx hw (md_retv h) dX12_spawns_114
  refine lv_iload_n cx.1 cx.2.1 dX12_spawns_0 rfl (lv_at hl 1 rfl) ?_
  refine lv_iconst (v := 3) cx.1 cx.2.1 dX12_spawns_1 (by decide) ?_
  refine lv_icmp_eq (tgt := 13) cx.1 cx.2.1 dX12_spawns_2 (by decide) (fun c2 => ?_) (fun c2 => ?_)
  · have h := md_ip c2 h
    refine lv_aload_n cx.1 cx.2.1 dX12_spawns_13 rfl (lv_at hl 0 rfl) ?_
    refine md_gR (k := 39) cx hw hin12c (by decide) (by decide) (List.mem_cons_of_mem _ mm_140) dX12_spawns_14 ?_
    refine lv_aload_n cx.1 cx.2.1 dX12_spawns_17 rfl (lv_at hl 0 rfl) ?_
    refine md_gR (k := 96) cx hw hin12c (by decide) (by decide) (List.mem_cons_of_mem _ mm_593) dX12_spawns_18 ?_
    refine lv_iload_n cx.1 cx.2.1 dX12_spawns_21 rfl (lv_at hl 2 rfl) ?_
    obtain ⟨v3, e_v3, h⟩ := md_ob h
    refine md_lI (k := 96) hj cx hw (by decide) rfl rfl rfl e_v3 dX12_spawns_22 ?_
    obtain ⟨v4, e_v4, h⟩ := md_ob h
    refine md_lI (k := 39) hj cx hw (by decide) rfl rfl rfl e_v4 dX12_spawns_23 ?_
    refine lv_if_eq (tgt := 35) cx.1 cx.2.1 dX12_spawns_24 (by decide) (fun c24 => ?_) (fun c24 => ?_)
    · have h := md_ip c24 h
      refine lv_aload_n cx.1 cx.2.1 dX12_spawns_35 rfl (lv_at hl 0 rfl) ?_
      refine md_gI (k := 105) cx hw hin12c rfl (by decide) (List.mem_cons_of_mem _ mm_612) dX12_spawns_36 ?_
      refine lv_bipush (v := 8) cx.1 cx.2.1 dX12_spawns_39 (by decide) ?_
      refine lv_icmp_ne (tgt := 53) cx.1 cx.2.1 dX12_spawns_41 (by decide) (fun c41 => ?_) (fun c41 => ?_)
      · have h := md_in c41 h
        refine lv_aload_n cx.1 cx.2.1 dX12_spawns_53 rfl (lv_at hl 0 rfl) ?_
        refine md_gI (k := 89) cx hw hin12c rfl (by decide) (List.mem_cons_of_mem _ mm_572) dX12_spawns_54 ?_
        refine lv_aload_n cx.1 cx.2.1 dX12_spawns_57 rfl (lv_at hl 0 rfl) ?_
        refine md_gI (k := 90) cx hw hin12c rfl (by decide) (List.mem_cons_of_mem _ mm_573) dX12_spawns_58 ?_
        refine lv_icmp_ne (tgt := 77) cx.1 cx.2.1 dX12_spawns_61 (by decide) (fun c61 => ?_) (fun c61 => ?_)
        · have h := md_in c61 h
          refine lv_aload_n cx.1 cx.2.1 dX12_spawns_77 rfl (lv_at hl 0 rfl) ?_
          obtain ⟨p5, e_p5, h⟩ := md_ob h
          refine hp_callVi (As := []) (rest := []) cx hw (km_X12_newThread l D cA E _ ad hj hE n σ0  p5 e_p5) (cwV 0 cx.2.2.2.2.2.1 (md_giV mm_642 mm_643 mm_644 mm_5 mm_645) rfl rfl rfl hd_X12_newThread ⟨Nat.le_of_ble_eq_true rfl, Nat.le_of_ble_eq_true rfl⟩) md_at0 rfl rfl hl.1 rfl (Nat.le_of_ble_eq_true rfl) dX12_spawns_78 ⟨Nat.le_refl _, Nat.le_refl _⟩ (fun r u H locs hp hw => ?_)
          obtain ⟨rfl, rfl⟩ := hp
          refine lv_istore_n (lv' := [(3, .int p5.1), (0, .ref (ad 137)), (1, .int a1), (2, .int a2)]) cx.1 cx.2.1 dX12_spawns_81 rfl hl (by decide) rfl (fun ls hl => ?_)
          refine lv_aload_n cx.1 cx.2.1 dX12_spawns_82 rfl (lv_at hl 1 rfl) ?_
          refine lv_iload_n cx.1 cx.2.1 dX12_spawns_83 rfl (lv_at hl 0 rfl) ?_
          refine lv_aload_n cx.1 cx.2.1 dX12_spawns_84 rfl (lv_at hl 1 rfl) ?_
          refine md_gR (k := 96) cx hw hin12c (by decide) (by decide) (List.mem_cons_of_mem _ mm_593) dX12_spawns_85 ?_
          refine lv_iload_n cx.1 cx.2.1 dX12_spawns_88 rfl (lv_at hl 3 rfl) ?_
          obtain ⟨v6, e_v6, h⟩ := md_ob h
          refine md_lI (k := 96) hj cx hw (by decide) rfl rfl rfl e_v6 dX12_spawns_89 ?_
          refine lv_iconst (v := 0) cx.1 cx.2.1 dX12_spawns_90 (by decide) ?_
          obtain ⟨p7, e_p7, h⟩ := md_ob h
          refine hp_callVi (As := [.int p5.1, .int v6, .int 0]) (rest := []) cx hw (km_X12_begin l D cA E _ ad hj hE n p5.2 (p5.1) v6 (0 : Int32) p7 e_p7) (cwV 3 cx.2.2.2.2.2.1 (md_giV mm_617 mm_618 mm_619 mm_5 mm_620) rfl rfl rfl hd_X12_begin ⟨Nat.le_of_ble_eq_true rfl, Nat.le_of_ble_eq_true rfl⟩) md_at0 rfl rfl hl.1 rfl (Nat.le_of_ble_eq_true rfl) dX12_spawns_91 ⟨Nat.le_refl _, Nat.le_refl _⟩ (fun r u H locs hp hw => ?_)
          obtain ⟨rfl, rfl⟩ := hp
          refine lv_if_eq (tgt := 103) cx.1 cx.2.1 dX12_spawns_94 (by decide) (fun c94 => ?_) (fun c94 => ?_)
          · have h := md_ip c94 h
            exact J103 p7.2 (p5.1) _ _ _ h hw (lv_sub hl [1, 0] rfl)
          · have h := md_in c94 h
            refine lv_aload_n cx.1 cx.2.1 dX12_spawns_97 rfl (lv_at hl 1 rfl) ?_
            refine lv_iload_n cx.1 cx.2.1 dX12_spawns_98 rfl (lv_at hl 0 rfl) ?_
            refine lv_iload_n cx.1 cx.2.1 dX12_spawns_99 rfl (lv_at hl 3 rfl) ?_
            obtain ⟨p8, e_p8, h⟩ := md_ob h
            refine hp_callVv (As := [.int p5.1, .int a2]) (rest := []) cx hw (km_X12_takeCaptured l D cA E _ ad hj hE n p7.2 (p5.1) a2 p8 e_p8) (cwV 2 cx.2.2.2.2.2.1 (md_giV mm_621 mm_622 mm_623 mm_5 mm_624) rfl rfl rfl hd_X12_takeCaptured ⟨Nat.le_of_ble_eq_true rfl, Nat.le_of_ble_eq_true rfl⟩) md_at0 rfl rfl hl.1 rfl (Nat.le_of_ble_eq_true rfl) dX12_spawns_100 ⟨Nat.le_refl _, Nat.le_refl _⟩ (fun u H locs hp hw => ?_)
            obtain rfl := hp
            exact J103 p8.2 (p5.1) _ _ _ h hw (lv_sub hl [1, 0] rfl)
        · have h := md_ip c61 h
          refine lv_aload_n cx.1 cx.2.1 dX12_spawns_64 rfl (lv_at hl 0 rfl) ?_
          refine lv_iconst (v := 1) cx.1 cx.2.1 dX12_spawns_65 (by decide) ?_
          obtain ⟨σ9, e_σ9, h⟩ := md_ob h
          refine md_pZ (k := 129) cx hw hin12c rfl (by decide) rfl (List.mem_cons_of_mem _ mm_579) rfl (by decide) e_σ9 dX12_spawns_66 (fun H locs hw => ?_)
          refine lv_aload_n cx.1 cx.2.1 dX12_spawns_69 rfl (lv_at hl 0 rfl) ?_
          refine lv_iconst (v := 0) cx.1 cx.2.1 dX12_spawns_70 (by decide) ?_
          obtain ⟨σ10, e_σ10, h⟩ := md_ob h
          refine md_pZ (k := 128) cx hw hin12c rfl (by decide) rfl (List.mem_cons_of_mem _ mm_569) rfl (by decide) e_σ10 dX12_spawns_71 (fun H locs hw => ?_)
          refine lv_goto (tgt := 114) cx.1 cx.2.1 dX12_spawns_74 (by decide) ?_
          exact hp_vret cx hw (md_retv h) dX12_spawns_114
      · have h := md_ip c41 h
        refine lv_aload_n cx.1 cx.2.1 dX12_spawns_44 rfl (lv_at hl 0 rfl) ?_
        refine lv_bipush (v := 7) cx.1 cx.2.1 dX12_spawns_45 (by decide) ?_
        obtain ⟨p11, e_p11, h⟩ := md_ob h
        refine hp_callVv (As := [.int 7]) (rest := []) cx hw (km_X12_failure l D cA E _ ad hj hE n σ0 (7 : Int32) p11 e_p11) (cwV 1 cx.2.2.2.2.2.1 (md_giV mm_575 mm_576 mm_577 mm_5 mm_578) rfl rfl rfl hd_X12_failure ⟨Nat.le_of_ble_eq_true rfl, Nat.le_of_ble_eq_true rfl⟩) md_at0 rfl rfl hl.1 rfl (Nat.le_of_ble_eq_true rfl) dX12_spawns_47 ⟨Nat.le_refl _, Nat.le_refl _⟩ (fun u H locs hp hw => ?_)
        obtain rfl := hp
        refine lv_goto (tgt := 114) cx.1 cx.2.1 dX12_spawns_50 (by decide) ?_
        exact hp_vret cx hw (md_retv h) dX12_spawns_114
    · have h := md_in c24 h
      refine lv_aload_n cx.1 cx.2.1 dX12_spawns_27 rfl (lv_at hl 0 rfl) ?_
      refine lv_iconst (v := 4) cx.1 cx.2.1 dX12_spawns_28 (by decide) ?_
      obtain ⟨p12, e_p12, h⟩ := md_ob h
      refine hp_callVv (As := [.int 4]) (rest := []) cx hw (km_X12_failure l D cA E _ ad hj hE n σ0 (4 : Int32) p12 e_p12) (cwV 1 cx.2.2.2.2.2.1 (md_giV mm_575 mm_576 mm_577 mm_5 mm_578) rfl rfl rfl hd_X12_failure ⟨Nat.le_of_ble_eq_true rfl, Nat.le_of_ble_eq_true rfl⟩) md_at0 rfl rfl hl.1 rfl (Nat.le_of_ble_eq_true rfl) dX12_spawns_29 ⟨Nat.le_refl _, Nat.le_refl _⟩ (fun u H locs hp hw => ?_)
      obtain rfl := hp
      refine lv_goto (tgt := 114) cx.1 cx.2.1 dX12_spawns_32 (by decide) ?_
      exact hp_vret cx hw (md_retv h) dX12_spawns_114
  · have h := md_in c2 h
    refine lv_aload_n cx.1 cx.2.1 dX12_spawns_5 rfl (lv_at hl 0 rfl) ?_
    refine lv_iconst (v := 3) cx.1 cx.2.1 dX12_spawns_6 (by decide) ?_
    obtain ⟨p13, e_p13, h⟩ := md_ob h
    refine hp_callVv (As := [.int 3]) (rest := []) cx hw (km_X12_failure l D cA E _ ad hj hE n σ0 (3 : Int32) p13 e_p13) (cwV 1 cx.2.2.2.2.2.1 (md_giV mm_575 mm_576 mm_577 mm_5 mm_578) rfl rfl rfl hd_X12_failure ⟨Nat.le_of_ble_eq_true rfl, Nat.le_of_ble_eq_true rfl⟩) md_at0 rfl rfl hl.1 rfl (Nat.le_of_ble_eq_true rfl) dX12_spawns_7 ⟨Nat.le_refl _, Nat.le_refl _⟩ (fun u H locs hp hw => ?_)
    obtain rfl := hp
    refine lv_goto (tgt := 114) cx.1 cx.2.1 dX12_spawns_10 (by decide) ?_
    exact hp_vret cx hw (md_retv h) dX12_spawns_114
set_option maxHeartbeats 4000000 in
set_option maxRecDepth 100000 in
theorem km_X12_stepWord (l : Launch) (D : va_G) (cA : Nat → ClassId) (E : hp_N) (sz : Nat) (ad : Nat → Nat) (hj : md_inj ad) (hE : md_E E) (n : Nat) (σ0 : md_S) (a1 : Int32) (p : (Int32 × md_S)) (h : f_X12_stepWord n σ0 a1 = some p) : Met l yX12_stepWord (Cond.code yX12_stepWord cX12_stepWord 4 none :: v_MOD) ({ frames := 4, cells := 0, slots := 0, locals := 101 }) (hp_Pc D vwCl (hp_Tl cA) E sz (md_pic cA ad σ0) [.ref (ad 137), .int a1]) (hp_Qv D vwCl (hp_Tl cA) sz (md_pic cA ad σ0) (fun u => u = md_pic cA ad p.2)) 0 0 (hp_A (md_pic cA ad σ0) sz) := by
  refine hp_ofW (cc := cX12_stepWord) (maxL := 4) (ret := none) (by decide) rfl (Nat.le_of_ble_eq_true rfl) ?_
  intro pp ee ss mm bb mt cd ls cx hsz hw hl
  have hl : lv_has ls 4 [(0, .ref (ad 137)), (1, .int a1)] := hl
  have J99 : ∀ (σ : md_S) (H : Heap) (locs : List Loc) (ls : Array Slot), f_X12_stepWord_J99 n σ = some p → hp_w D vwCl (hp_Tl cA) E (hp_A (md_pic cA ad σ0) sz) ss H locs (md_pic cA ad σ) → lv_has ls 4 [(0, .ref (ad 137))] → W pp l ee ({ frames := 4, cells := 0, slots := 0, locals := 101 }) ss mm [.ref (ad 137), .int a1].toArray bb mt cd H locs 0 0 (MQ bb (hp_Qv D vwCl (hp_Tl cA) sz (md_pic cA ad σ0) (fun u => u = md_pic cA ad p.2)) [.ref (ad 137), .int a1].toArray ss 0 0 (hp_A (md_pic cA ad σ0) sz)) (F0 mm 99 ls []) := by
    intro σ H locs ls h hw hl
    refine lv_aload_n cx.1 cx.2.1 dX12_stepWord_99 rfl (lv_at hl 0 rfl) ?_
    refine lv_bipush (v := 8) cx.1 cx.2.1 dX12_stepWord_100 (by decide) ?_
    obtain ⟨p1, e_p1, h⟩ := md_ob h
    refine hp_callVv (As := [.int 8]) (rest := []) cx hw (km_X12_failure l D cA E _ ad hj hE n σ (8 : Int32) p1 e_p1) (cwV 1 cx.2.2.2.2.2.1 (md_giV mm_575 mm_576 mm_577 mm_5 mm_578) rfl rfl rfl hd_X12_failure ⟨Nat.le_of_ble_eq_true rfl, Nat.le_of_ble_eq_true rfl⟩) md_at0 rfl rfl hl.1 rfl (Nat.le_of_ble_eq_true rfl) dX12_stepWord_102 ⟨Nat.le_refl _, Nat.le_refl _⟩ (fun u H locs hp hw => ?_)
    obtain rfl := hp
    refine lv_goto (tgt := 140) cx.1 cx.2.1 dX12_stepWord_105 (by decide) ?_
    exact hp_vret cx hw (md_retv h) dX12_stepWord_140
  refine lv_aload_n cx.1 cx.2.1 dX12_stepWord_0 rfl (lv_at hl 0 rfl) ?_
  obtain ⟨p2, e_p2, h⟩ := md_ob h
  refine hp_callVi (As := []) (rest := []) cx hw (km_X12_pop l D cA E _ ad hj hE n σ0  p2 e_p2) (cwV 0 cx.2.2.2.2.2.1 (md_giV mm_613 mm_614 mm_615 mm_5 mm_616) rfl rfl rfl hd_X12_pop ⟨Nat.le_of_ble_eq_true rfl, Nat.le_of_ble_eq_true rfl⟩) md_at0 rfl rfl hl.1 rfl (Nat.le_of_ble_eq_true rfl) dX12_stepWord_1 ⟨Nat.le_refl _, Nat.le_refl _⟩ (fun r u H locs hp hw => ?_)
  obtain ⟨rfl, rfl⟩ := hp
  refine lv_istore_n (lv' := [(2, .int p2.1), (0, .ref (ad 137)), (1, .int a1)]) cx.1 cx.2.1 dX12_stepWord_4 rfl hl (by decide) rfl (fun ls hl => ?_)
  refine lv_aload_n cx.1 cx.2.1 dX12_stepWord_5 rfl (lv_at hl 1 rfl) ?_
  refine md_gI (k := 135) cx hw hin12c rfl (by decide) (List.mem_cons_of_mem _ mm_543) dX12_stepWord_6 ?_
  refine lv_istore_n (lv' := [(3, .int (mI p2.2 135)), (2, .int p2.1), (0, .ref (ad 137)), (1, .int a1)]) cx.1 cx.2.1 dX12_stepWord_9 rfl hl (by decide) rfl (fun ls hl => ?_)
  refine lv_iload_n cx.1 cx.2.1 dX12_stepWord_10 rfl (lv_at hl 3 rfl) ?_
  refine lv_bipush (v := 23) cx.1 cx.2.1 dX12_stepWord_11 (by decide) ?_
  refine lv_icmp_ne (tgt := 23) cx.1 cx.2.1 dX12_stepWord_13 (by decide) (fun c13 => ?_) (fun c13 => ?_)
  · have h := md_in c13 h
    refine lv_iload_n cx.1 cx.2.1 dX12_stepWord_23 rfl (lv_at hl 1 rfl) ?_
    refine lv_if_eq (tgt := 33) cx.1 cx.2.1 dX12_stepWord_24 (by decide) (fun c24 => ?_) (fun c24 => ?_)
    · have h := md_ip c24 h
      refine lv_iload_n cx.1 cx.2.1 dX12_stepWord_33 rfl (lv_at hl 3 rfl) ?_
      refine lv_bipush (v := 21) cx.1 cx.2.1 dX12_stepWord_34 (by decide) ?_
      refine lv_icmp_ne (tgt := 61) cx.1 cx.2.1 dX12_stepWord_36 (by decide) (fun c36 => ?_) (fun c36 => ?_)
      · have h := md_in c36 h
        refine lv_iload_n cx.1 cx.2.1 dX12_stepWord_61 rfl (lv_at hl 3 rfl) ?_
        refine lv_bipush (v := 22) cx.1 cx.2.1 dX12_stepWord_62 (by decide) ?_
        refine lv_icmp_ne (tgt := 75) cx.1 cx.2.1 dX12_stepWord_64 (by decide) (fun c64 => ?_) (fun c64 => ?_)
        · have h := md_in c64 h
          refine lv_iload_n cx.1 cx.2.1 dX12_stepWord_75 rfl (lv_at hl 0 rfl) ?_
          refine lv_i2l (v := ((mI p2.2 135).toInt64)) cx.1 cx.2.1 dX12_stepWord_76 rfl ?_
          refine lv_lconst (v := 0) cx.1 cx.2.1 dX12_stepWord_77 (by decide) ?_
          refine lv_aload_n cx.1 cx.2.1 dX12_stepWord_78 rfl (lv_at hl 2 rfl) ?_
          refine md_gI (k := 105) cx hw hin12c rfl (by decide) (List.mem_cons_of_mem _ mm_612) dX12_stepWord_79 ?_
          refine lv_iconst (v := 1) cx.1 cx.2.1 dX12_stepWord_82 (by decide) ?_
          refine lv_isub cx.1 cx.2.1 dX12_stepWord_83 ?_
          refine lv_i2l (v := (((mI p2.2 105) - 1).toInt64)) cx.1 cx.2.1 dX12_stepWord_84 rfl ?_
          obtain ⟨p3, e_p3, h⟩ := md_ob h
          refine hp_callSi (As := [.long ((mI p2.2 135).toInt64), .long 0, .long (((mI p2.2 105) - 1).toInt64)]) (rest := []) cx hw (km_X12_in l D cA E _ ad hj hE n p2.2 (((mI p2.2 135).toInt64)) (0 : Int64) ((((mI p2.2 105) - 1).toInt64)) p3 e_p3) (cwS 3 cx.2.2.2.2.2.1 (md_giS mm_3 mm_4 mm_5 mm_6) rfl rfl rfl hd_X12_in ⟨Nat.le_of_ble_eq_true rfl, Nat.le_of_ble_eq_true rfl⟩) rfl hl.1 rfl (Nat.le_of_ble_eq_true rfl) dX12_stepWord_85 ⟨Nat.le_refl _, Nat.le_refl _⟩ (fun r u H locs hp hw => ?_)
          obtain ⟨rfl, rfl⟩ := hp
          refine lv_if_eq (tgt := 99) cx.1 cx.2.1 dX12_stepWord_88 (by decide) (fun c88 => ?_) (fun c88 => ?_)
          · have h := md_ip c88 h
            exact J99 p3.2 _ _ _ h hw (lv_sub hl [2] rfl)
          · have h := md_in c88 h
            refine lv_iload_n cx.1 cx.2.1 dX12_stepWord_91 rfl (lv_at hl 0 rfl) ?_
            refine lv_aload_n cx.1 cx.2.1 dX12_stepWord_92 rfl (lv_at hl 2 rfl) ?_
            refine md_gI (k := 127) cx hw hin12c rfl (by decide) (List.mem_cons_of_mem _ mm_538) dX12_stepWord_93 ?_
            refine lv_icmp_ne (tgt := 108) cx.1 cx.2.1 dX12_stepWord_96 (by decide) (fun c96 => ?_) (fun c96 => ?_)
            · have h := md_in c96 h
              refine lv_aload_n cx.1 cx.2.1 dX12_stepWord_108 rfl (lv_at hl 2 rfl) ?_
              refine md_gR (k := 106) cx hw hin12c (by decide) (by decide) (List.mem_cons_of_mem _ mm_562) dX12_stepWord_109 ?_
              refine lv_iload_n cx.1 cx.2.1 dX12_stepWord_112 rfl (lv_at hl 0 rfl) ?_
              obtain ⟨v4, e_v4, h⟩ := md_ob h
              refine md_lI (k := 106) hj cx hw (by decide) rfl rfl rfl e_v4 dX12_stepWord_113 ?_
              refine lv_if_eq (tgt := 125) cx.1 cx.2.1 dX12_stepWord_114 (by decide) (fun c114 => ?_) (fun c114 => ?_)
              · have h := md_ip c114 h
                refine lv_aload_n cx.1 cx.2.1 dX12_stepWord_125 rfl (lv_at hl 2 rfl) ?_
                refine md_gR (k := 107) cx hw hin12c (by decide) (by decide) (List.mem_cons_of_mem _ mm_603) dX12_stepWord_126 ?_
                refine lv_aload_n cx.1 cx.2.1 dX12_stepWord_129 rfl (lv_at hl 2 rfl) ?_
                refine md_gI (k := 127) cx hw hin12c rfl (by decide) (List.mem_cons_of_mem _ mm_538) dX12_stepWord_130 ?_
                refine lv_iload_n cx.1 cx.2.1 dX12_stepWord_133 rfl (lv_at hl 0 rfl) ?_
                obtain ⟨σ5, e_σ5, h⟩ := md_ob h
                refine md_sI (k := 107) hj cx hw (by decide) rfl rfl rfl e_σ5 dX12_stepWord_134 (fun H locs hw => ?_)
                refine lv_aload_n cx.1 cx.2.1 dX12_stepWord_135 rfl (lv_at hl 2 rfl) ?_
                refine lv_iconst (v := 0) cx.1 cx.2.1 dX12_stepWord_136 (by decide) ?_
                obtain ⟨σ6, e_σ6, h⟩ := md_ob h
                refine md_pZ (k := 128) cx hw hin12c rfl (by decide) rfl (List.mem_cons_of_mem _ mm_569) rfl (by decide) e_σ6 dX12_stepWord_137 (fun H locs hw => ?_)
                exact hp_vret cx hw (md_retv h) dX12_stepWord_140
              · have h := md_in c114 h
                refine lv_aload_n cx.1 cx.2.1 dX12_stepWord_117 rfl (lv_at hl 2 rfl) ?_
                refine lv_iload_n cx.1 cx.2.1 dX12_stepWord_118 rfl (lv_at hl 0 rfl) ?_
                obtain ⟨p7, e_p7, h⟩ := md_ob h
                refine hp_callVv (As := [.int (mI p2.2 135)]) (rest := []) cx hw (km_X12_hasWaited l D cA E _ ad hj hE n p3.2 ((mI p2.2 135)) p7 e_p7) (cwV 1 cx.2.2.2.2.2.1 (md_giV mm_608 mm_609 mm_610 mm_5 mm_611) rfl rfl rfl hd_X12_hasWaited ⟨Nat.le_of_ble_eq_true rfl, Nat.le_of_ble_eq_true rfl⟩) md_at0 rfl rfl hl.1 rfl (Nat.le_of_ble_eq_true rfl) dX12_stepWord_119 ⟨Nat.le_refl _, Nat.le_refl _⟩ (fun u H locs hp hw => ?_)
                obtain rfl := hp
                refine lv_goto (tgt := 140) cx.1 cx.2.1 dX12_stepWord_122 (by decide) ?_
                exact hp_vret cx hw (md_retv h) dX12_stepWord_140
            · have h := md_ip c96 h
              exact J99 p3.2 _ _ _ h hw (lv_sub hl [2] rfl)
        · have h := md_ip c64 h
          refine lv_aload_n cx.1 cx.2.1 dX12_stepWord_67 rfl (lv_at hl 2 rfl) ?_
          refine lv_iload_n cx.1 cx.2.1 dX12_stepWord_68 rfl (lv_at hl 0 rfl) ?_
          obtain ⟨p8, e_p8, h⟩ := md_ob h
          refine hp_callVv (As := [.int (mI p2.2 135)]) (rest := []) cx hw (km_X12_failure l D cA E _ ad hj hE n p2.2 ((mI p2.2 135)) p8 e_p8) (cwV 1 cx.2.2.2.2.2.1 (md_giV mm_575 mm_576 mm_577 mm_5 mm_578) rfl rfl rfl hd_X12_failure ⟨Nat.le_of_ble_eq_true rfl, Nat.le_of_ble_eq_true rfl⟩) md_at0 rfl rfl hl.1 rfl (Nat.le_of_ble_eq_true rfl) dX12_stepWord_69 ⟨Nat.le_refl _, Nat.le_refl _⟩ (fun u H locs hp hw => ?_)
          obtain rfl := hp
          refine lv_goto (tgt := 140) cx.1 cx.2.1 dX12_stepWord_72 (by decide) ?_
          exact hp_vret cx hw (md_retv h) dX12_stepWord_140
      · have h := md_ip c36 h
        refine lv_aload_n cx.1 cx.2.1 dX12_stepWord_39 rfl (lv_at hl 2 rfl) ?_
        refine lv_iconst (v := 0) cx.1 cx.2.1 dX12_stepWord_40 (by decide) ?_
        refine lv_iload_n cx.1 cx.2.1 dX12_stepWord_41 rfl (lv_at hl 0 rfl) ?_
        refine lv_iconst (v := (-1)) cx.1 cx.2.1 dX12_stepWord_42 (by decide) ?_
        refine lv_iconst (v := (-1)) cx.1 cx.2.1 dX12_stepWord_43 (by decide) ?_
        obtain ⟨p9, e_p9, h⟩ := md_ob h
        refine hp_callVv (As := [.int 0, .int (mI p2.2 135), .int (-1), .int (-1)]) (rest := []) cx hw (km_X12_tells l D cA E _ ad hj hE n p2.2 (0 : Int32) ((mI p2.2 135)) ((-1) : Int32) ((-1) : Int32) p9 e_p9) (cwV 4 cx.2.2.2.2.2.1 (md_giV mm_565 mm_566 mm_567 mm_5 mm_568) rfl rfl rfl hd_X12_tells ⟨Nat.le_of_ble_eq_true rfl, Nat.le_of_ble_eq_true rfl⟩) md_at0 rfl rfl hl.1 rfl (Nat.le_of_ble_eq_true rfl) dX12_stepWord_44 ⟨Nat.le_refl _, Nat.le_refl _⟩ (fun u H locs hp hw => ?_)
        obtain rfl := hp
        refine lv_aload_n cx.1 cx.2.1 dX12_stepWord_47 rfl (lv_at hl 2 rfl) ?_
        refine lv_iconst (v := 0) cx.1 cx.2.1 dX12_stepWord_48 (by decide) ?_
        refine lv_iload_n cx.1 cx.2.1 dX12_stepWord_49 rfl (lv_at hl 0 rfl) ?_
        obtain ⟨p10, e_p10, h⟩ := md_ob h
        refine hp_callVv (As := [.int 0, .int (mI p2.2 135)]) (rest := []) cx hw (km_X12_push l D cA E _ ad hj hE n p9.2 (0 : Int32) ((mI p2.2 135)) p10 e_p10) (cwV 2 cx.2.2.2.2.2.1 (md_giV mm_558 mm_559 mm_560 mm_5 mm_561) rfl rfl rfl hd_X12_push ⟨Nat.le_of_ble_eq_true rfl, Nat.le_of_ble_eq_true rfl⟩) md_at0 rfl rfl hl.1 rfl (Nat.le_of_ble_eq_true rfl) dX12_stepWord_50 ⟨Nat.le_refl _, Nat.le_refl _⟩ (fun u H locs hp hw => ?_)
        obtain rfl := hp
        refine lv_aload_n cx.1 cx.2.1 dX12_stepWord_53 rfl (lv_at hl 2 rfl) ?_
        refine lv_iconst (v := 0) cx.1 cx.2.1 dX12_stepWord_54 (by decide) ?_
        obtain ⟨σ11, e_σ11, h⟩ := md_ob h
        refine md_pZ (k := 128) cx hw hin12c rfl (by decide) rfl (List.mem_cons_of_mem _ mm_569) rfl (by decide) e_σ11 dX12_stepWord_55 (fun H locs hw => ?_)
        refine lv_goto (tgt := 140) cx.1 cx.2.1 dX12_stepWord_58 (by decide) ?_
        exact hp_vret cx hw (md_retv h) dX12_stepWord_140
    · have h := md_in c24 h
      refine lv_aload_n cx.1 cx.2.1 dX12_stepWord_27 rfl (lv_at hl 2 rfl) ?_
      refine lv_iconst (v := 5) cx.1 cx.2.1 dX12_stepWord_28 (by decide) ?_
      obtain ⟨p12, e_p12, h⟩ := md_ob h
      refine hp_callVv (As := [.int 5]) (rest := []) cx hw (km_X12_failure l D cA E _ ad hj hE n p2.2 (5 : Int32) p12 e_p12) (cwV 1 cx.2.2.2.2.2.1 (md_giV mm_575 mm_576 mm_577 mm_5 mm_578) rfl rfl rfl hd_X12_failure ⟨Nat.le_of_ble_eq_true rfl, Nat.le_of_ble_eq_true rfl⟩) md_at0 rfl rfl hl.1 rfl (Nat.le_of_ble_eq_true rfl) dX12_stepWord_29 ⟨Nat.le_refl _, Nat.le_refl _⟩ (fun u H locs hp hw => ?_)
      obtain rfl := hp
      exact hp_vret cx hw (md_retv h) dX12_stepWord_32
  · have h := md_ip c13 h
    refine lv_aload_n cx.1 cx.2.1 dX12_stepWord_16 rfl (lv_at hl 2 rfl) ?_
    refine lv_iload_n cx.1 cx.2.1 dX12_stepWord_17 rfl (lv_at hl 1 rfl) ?_
    refine lv_iload_n cx.1 cx.2.1 dX12_stepWord_18 rfl (lv_at hl 0 rfl) ?_
    obtain ⟨p13, e_p13, h⟩ := md_ob h
    refine hp_callVv (As := [.int p2.1, .int (mI p2.2 135)]) (rest := []) cx hw (km_X12_spawns l D cA E _ ad hj hE n p2.2 (p2.1) ((mI p2.2 135)) p13 e_p13) (cwV 2 cx.2.2.2.2.2.1 (md_giV mm_646 mm_647 mm_648 mm_5 mm_649) rfl rfl rfl hd_X12_spawns ⟨Nat.le_of_ble_eq_true rfl, Nat.le_of_ble_eq_true rfl⟩) md_at0 rfl rfl hl.1 rfl (Nat.le_of_ble_eq_true rfl) dX12_stepWord_19 ⟨Nat.le_refl _, Nat.le_refl _⟩ (fun u H locs hp hw => ?_)
    obtain rfl := hp
    exact hp_vret cx hw (md_retv h) dX12_stepWord_22
set_option maxHeartbeats 4000000 in
set_option maxRecDepth 100000 in
theorem km_X12_wordAt (l : Launch) (D : va_G) (cA : Nat → ClassId) (E : hp_N) (sz : Nat) (ad : Nat → Nat) (hj : md_inj ad) (hE : md_E E) (n : Nat) (σ0 : md_S) (a1 : Int32) (p : (Int32 × md_S)) (h : f_X12_wordAt n σ0 a1 = some p) : Met l yX12_wordAt (Cond.code yX12_wordAt cX12_wordAt 2 (some .int) :: v_MOD) ({ frames := 0, cells := 0, slots := 0, locals := 0 }) (hp_Pc D vwCl (hp_Tl cA) E sz (md_pic cA ad σ0) [.ref (ad 137), .int a1]) (hp_Qi D vwCl (hp_Tl cA) sz (md_pic cA ad σ0) (fun r u => r = p.1 ∧ u = md_pic cA ad p.2)) 0 0 (hp_A (md_pic cA ad σ0) sz) := by
  refine hp_ofW (cc := cX12_wordAt) (maxL := 2) (ret := (some .int)) (by decide) rfl (Nat.le_of_ble_eq_true rfl) ?_
  intro pp ee ss mm bb mt cd ls cx hsz hw hl
  have hl : lv_has ls 2 [(0, .ref (ad 137)), (1, .int a1)] := hl
  refine lv_aload_n cx.1 cx.2.1 dX12_wordAt_0 rfl (lv_at hl 0 rfl) ?_
  refine md_gR (k := 74) cx hw hin12c (by decide) (by decide) (List.mem_cons_of_mem _ mm_393) dX12_wordAt_1 ?_
  refine lv_iload_n cx.1 cx.2.1 dX12_wordAt_4 rfl (lv_at hl 1 rfl) ?_
  obtain ⟨v1, e_v1, h⟩ := md_ob h
  refine md_lB (k := 74) hj cx hw (by decide) rfl rfl rfl e_v1 dX12_wordAt_5 ?_
  refine lv_sipush (v := 255) cx.1 cx.2.1 dX12_wordAt_6 (by decide) ?_
  refine lv_iand cx.1 cx.2.1 dX12_wordAt_9 ?_
  refine lv_bipush (v := 8) cx.1 cx.2.1 dX12_wordAt_10 (by decide) ?_
  refine lv_ishl cx.1 cx.2.1 dX12_wordAt_12 ?_
  refine lv_aload_n cx.1 cx.2.1 dX12_wordAt_13 rfl (lv_at hl 0 rfl) ?_
  refine md_gR (k := 74) cx hw hin12c (by decide) (by decide) (List.mem_cons_of_mem _ mm_393) dX12_wordAt_14 ?_
  refine lv_iload_n cx.1 cx.2.1 dX12_wordAt_17 rfl (lv_at hl 1 rfl) ?_
  refine lv_iconst (v := 1) cx.1 cx.2.1 dX12_wordAt_18 (by decide) ?_
  refine lv_iadd cx.1 cx.2.1 dX12_wordAt_19 ?_
  obtain ⟨v2, e_v2, h⟩ := md_ob h
  refine md_lB (k := 74) hj cx hw (by decide) rfl rfl rfl e_v2 dX12_wordAt_20 ?_
  refine lv_sipush (v := 255) cx.1 cx.2.1 dX12_wordAt_21 (by decide) ?_
  refine lv_iand cx.1 cx.2.1 dX12_wordAt_24 ?_
  refine lv_ior cx.1 cx.2.1 dX12_wordAt_25 ?_
  exact hp_iret cx hw (md_ret h) dX12_wordAt_26
set_option maxHeartbeats 4000000 in
set_option maxRecDepth 100000 in
theorem km_X12_stepOther (l : Launch) (D : va_G) (cA : Nat → ClassId) (E : hp_N) (sz : Nat) (ad : Nat → Nat) (hj : md_inj ad) (hE : md_E E) (n : Nat) (σ0 : md_S) (a1 : Int32) (a2 : Int32) (a3 : Int32) (a4 : Int32) (p : (Int32 × md_S)) (h : f_X12_stepOther n σ0 a1 a2 a3 a4 = some p) : Met l yX12_stepOther (Cond.code yX12_stepOther cX12_stepOther 5 none :: v_MOD) ({ frames := 5, cells := 0, slots := 0, locals := 128 }) (hp_Pc D vwCl (hp_Tl cA) E sz (md_pic cA ad σ0) [.ref (ad 137), .int a1, .int a2, .int a3, .int a4]) (hp_Qv D vwCl (hp_Tl cA) sz (md_pic cA ad σ0) (fun u => u = md_pic cA ad p.2)) 0 0 (hp_A (md_pic cA ad σ0) sz) := by
  refine hp_ofW (cc := cX12_stepOther) (maxL := 5) (ret := none) (by decide) rfl (Nat.le_of_ble_eq_true rfl) ?_
  intro pp ee ss mm bb mt cd ls cx hsz hw hl
  have hl : lv_has ls 5 [(0, .ref (ad 137)), (1, .int a1), (2, .int a2), (3, .int a3), (4, .int a4)] := hl
  have J350 : ∀ (σ : md_S) (l1 : Int32) (l2 : Int32) (H : Heap) (locs : List Loc) (ls : Array Slot), f_X12_stepOther_J350 n σ l1 l2 = some p → hp_w D vwCl (hp_Tl cA) E (hp_A (md_pic cA ad σ0) sz) ss H locs (md_pic cA ad σ) → lv_has ls 5 [(0, .ref (ad 137)), (1, .int l1), (2, .int l2)] → W pp l ee ({ frames := 5, cells := 0, slots := 0, locals := 128 }) ss mm [.ref (ad 137), .int a1, .int a2, .int a3, .int a4].toArray bb mt cd H locs 0 0 (MQ bb (hp_Qv D vwCl (hp_Tl cA) sz (md_pic cA ad σ0) (fun u => u = md_pic cA ad p.2)) [.ref (ad 137), .int a1, .int a2, .int a3, .int a4].toArray ss 0 0 (hp_A (md_pic cA ad σ0) sz)) (F0 mm 350 ls []) := by
    intro σ l1 l2 H locs ls h hw hl
    refine lv_aload_n cx.1 cx.2.1 dX12_stepOther_350 rfl (lv_at hl 0 rfl) ?_
    refine md_gR (k := 113) cx hw hin12c (by decide) (by decide) (List.mem_cons_of_mem _ mm_556) dX12_stepOther_351 ?_
    refine lv_iload_n cx.1 cx.2.1 dX12_stepOther_354 rfl (lv_at hl 1 rfl) ?_
    refine lv_dup2_11 cx.1 cx.2.1 dX12_stepOther_355 rfl rfl ?_
    obtain ⟨v1, e_v1, h⟩ := md_ob h
    refine md_lI (k := 113) hj cx hw (by decide) rfl rfl rfl e_v1 dX12_stepOther_356 ?_
    refine lv_iconst (v := 1) cx.1 cx.2.1 dX12_stepOther_357 (by decide) ?_
    refine lv_iadd cx.1 cx.2.1 dX12_stepOther_358 ?_
    obtain ⟨σ2, e_σ2, h⟩ := md_ob h
    refine md_sI (k := 113) hj cx hw (by decide) rfl rfl rfl e_σ2 dX12_stepOther_359 (fun H locs hw => ?_)
    refine lv_aload_n cx.1 cx.2.1 dX12_stepOther_360 rfl (lv_at hl 0 rfl) ?_
    refine lv_iload_n cx.1 cx.2.1 dX12_stepOther_361 rfl (lv_at hl 2 rfl) ?_
    obtain ⟨p3, e_p3, h⟩ := md_ob h
    refine hp_callVv (As := [.int l2]) (rest := []) cx hw (km_X12_stepWord l D cA E _ ad hj hE n σ2 l2 p3 e_p3) (cwV 1 cx.2.2.2.2.2.1 (md_giV mm_678 mm_679 mm_680 mm_5 mm_681) rfl rfl rfl hd_X12_stepWord ⟨Nat.le_of_ble_eq_true rfl, Nat.le_of_ble_eq_true rfl⟩) md_at0 rfl rfl hl.1 rfl (Nat.le_of_ble_eq_true rfl) dX12_stepOther_362 ⟨Nat.le_refl _, Nat.le_refl _⟩ (fun u H locs hp hw => ?_)
    obtain rfl := hp
    exact hp_vret cx hw (md_retv h) dX12_stepOther_365
  have J344 : ∀ (σ : md_S) (t0 : Int32) (t1 : Int32) (H : Heap) (locs : List Loc) (ls : Array Slot), f_X12_stepOther_J344 n σ t0 t1 = some p → hp_w D vwCl (hp_Tl cA) E (hp_A (md_pic cA ad σ0) sz) ss H locs (md_pic cA ad σ) → lv_has ls 5 [] → W pp l ee ({ frames := 5, cells := 0, slots := 0, locals := 128 }) ss mm [.ref (ad 137), .int a1, .int a2, .int a3, .int a4].toArray bb mt cd H locs 0 0 (MQ bb (hp_Qv D vwCl (hp_Tl cA) sz (md_pic cA ad σ0) (fun u => u = md_pic cA ad p.2)) [.ref (ad 137), .int a1, .int a2, .int a3, .int a4].toArray ss 0 0 (hp_A (md_pic cA ad σ0) sz)) (F0 mm 344 ls [.int t0, .int t1, .ref (ad 137)]) := by
    intro σ t0 t1 H locs ls h hw hl
    obtain ⟨p4, e_p4, h⟩ := md_ob h
    refine hp_callVv (As := [.int t1, .int t0]) (rest := []) cx hw (km_X12_push l D cA E _ ad hj hE n σ t1 t0 p4 e_p4) (cwV 2 cx.2.2.2.2.2.1 (md_giV mm_558 mm_559 mm_560 mm_5 mm_561) rfl rfl rfl hd_X12_push ⟨Nat.le_of_ble_eq_true rfl, Nat.le_of_ble_eq_true rfl⟩) md_at0 rfl rfl hl.1 rfl (Nat.le_of_ble_eq_true rfl) dX12_stepOther_344 ⟨Nat.le_refl _, Nat.le_refl _⟩ (fun u H locs hp hw => ?_)
    obtain rfl := hp
    refine lv_goto (tgt := 365) cx.1 cx.2.1 dX12_stepOther_347 (by decide) ?_
    exact hp_vret cx hw (md_retv h) dX12_stepOther_365
  have J291 : ∀ (σ : md_S) (l1 : Int32) (l2 : Int32) (l3 : Int32) (H : Heap) (locs : List Loc) (ls : Array Slot), f_X12_stepOther_J291 n σ l1 l2 l3 = some p → hp_w D vwCl (hp_Tl cA) E (hp_A (md_pic cA ad σ0) sz) ss H locs (md_pic cA ad σ) → lv_has ls 5 [(0, .ref (ad 137)), (1, .int l1), (2, .int l2), (3, .int l3)] → W pp l ee ({ frames := 5, cells := 0, slots := 0, locals := 128 }) ss mm [.ref (ad 137), .int a1, .int a2, .int a3, .int a4].toArray bb mt cd H locs 0 0 (MQ bb (hp_Qv D vwCl (hp_Tl cA) sz (md_pic cA ad σ0) (fun u => u = md_pic cA ad p.2)) [.ref (ad 137), .int a1, .int a2, .int a3, .int a4].toArray ss 0 0 (hp_A (md_pic cA ad σ0) sz)) (F0 mm 291 ls []) := by
    intro σ l1 l2 l3 H locs ls h hw hl
    refine lv_aload_n cx.1 cx.2.1 dX12_stepOther_291 rfl (lv_at hl 0 rfl) ?_
    refine md_gR (k := 113) cx hw hin12c (by decide) (by decide) (List.mem_cons_of_mem _ mm_556) dX12_stepOther_292 ?_
    refine lv_iload_n cx.1 cx.2.1 dX12_stepOther_295 rfl (lv_at hl 1 rfl) ?_
    refine lv_dup2_11 cx.1 cx.2.1 dX12_stepOther_296 rfl rfl ?_
    obtain ⟨v5, e_v5, h⟩ := md_ob h
    refine md_lI (k := 113) hj cx hw (by decide) rfl rfl rfl e_v5 dX12_stepOther_297 ?_
    refine lv_iconst (v := 3) cx.1 cx.2.1 dX12_stepOther_298 (by decide) ?_
    refine lv_iadd cx.1 cx.2.1 dX12_stepOther_299 ?_
    obtain ⟨σ6, e_σ6, h⟩ := md_ob h
    refine md_sI (k := 113) hj cx hw (by decide) rfl rfl rfl e_σ6 dX12_stepOther_300 (fun H locs hw => ?_)
    refine lv_aload_n cx.1 cx.2.1 dX12_stepOther_301 rfl (lv_at hl 0 rfl) ?_
    refine lv_iload_n cx.1 cx.2.1 dX12_stepOther_302 rfl (lv_at hl 2 rfl) ?_
    refine lv_iload_n cx.1 cx.2.1 dX12_stepOther_303 rfl (lv_at hl 3 rfl) ?_
    obtain ⟨p7, e_p7, h⟩ := md_ob h
    refine hp_callVv (As := [.int l2, .int l3]) (rest := []) cx hw (km_X12_asks_ l D cA E _ ad hj hE n σ6 l2 l3 p7 e_p7) (cwV 2 cx.2.2.2.2.2.1 (md_giV mm_682 mm_683 mm_684 mm_5 mm_685) rfl rfl rfl hd_X12_asks_ ⟨Nat.le_of_ble_eq_true rfl, Nat.le_of_ble_eq_true rfl⟩) md_at0 rfl rfl hl.1 rfl (Nat.le_of_ble_eq_true rfl) dX12_stepOther_304 ⟨Nat.le_refl _, Nat.le_refl _⟩ (fun u H locs hp hw => ?_)
    obtain rfl := hp
    refine lv_goto (tgt := 365) cx.1 cx.2.1 dX12_stepOther_307 (by decide) ?_
    exact hp_vret cx hw (md_retv h) dX12_stepOther_365
  have J182 : ∀ (σ : md_S) (l1 : Int32) (l2 : Int32) (l3 : Int32) (H : Heap) (locs : List Loc) (ls : Array Slot), f_X12_stepOther_J182 n σ l1 l2 l3 = some p → hp_w D vwCl (hp_Tl cA) E (hp_A (md_pic cA ad σ0) sz) ss H locs (md_pic cA ad σ) → lv_has ls 5 [(0, .ref (ad 137)), (1, .int l1), (2, .int l2), (3, .int l3)] → W pp l ee ({ frames := 5, cells := 0, slots := 0, locals := 128 }) ss mm [.ref (ad 137), .int a1, .int a2, .int a3, .int a4].toArray bb mt cd H locs 0 0 (MQ bb (hp_Qv D vwCl (hp_Tl cA) sz (md_pic cA ad σ0) (fun u => u = md_pic cA ad p.2)) [.ref (ad 137), .int a1, .int a2, .int a3, .int a4].toArray ss 0 0 (hp_A (md_pic cA ad σ0) sz)) (F0 mm 182 ls []) := by
    intro σ l1 l2 l3 H locs ls h hw hl
    refine lv_aload_n cx.1 cx.2.1 dX12_stepOther_182 rfl (lv_at hl 0 rfl) ?_
    refine md_gR (k := 113) cx hw hin12c (by decide) (by decide) (List.mem_cons_of_mem _ mm_556) dX12_stepOther_183 ?_
    refine lv_iload_n cx.1 cx.2.1 dX12_stepOther_186 rfl (lv_at hl 1 rfl) ?_
    refine lv_dup2_11 cx.1 cx.2.1 dX12_stepOther_187 rfl rfl ?_
    obtain ⟨v8, e_v8, h⟩ := md_ob h
    refine md_lI (k := 113) hj cx hw (by decide) rfl rfl rfl e_v8 dX12_stepOther_188 ?_
    refine lv_iconst (v := 3) cx.1 cx.2.1 dX12_stepOther_189 (by decide) ?_
    refine lv_iadd cx.1 cx.2.1 dX12_stepOther_190 ?_
    obtain ⟨σ9, e_σ9, h⟩ := md_ob h
    refine md_sI (k := 113) hj cx hw (by decide) rfl rfl rfl e_σ9 dX12_stepOther_191 (fun H locs hw => ?_)
    refine lv_aload_n cx.1 cx.2.1 dX12_stepOther_192 rfl (lv_at hl 0 rfl) ?_
    refine lv_iload_n cx.1 cx.2.1 dX12_stepOther_193 rfl (lv_at hl 2 rfl) ?_
    refine lv_aload_n cx.1 cx.2.1 dX12_stepOther_194 rfl (lv_at hl 0 rfl) ?_
    refine md_gR (k := 61) cx hw hin12c (by decide) (by decide) (List.mem_cons_of_mem _ mm_142) dX12_stepOther_195 ?_
    refine lv_iload_n cx.1 cx.2.1 dX12_stepOther_198 rfl (lv_at hl 3 rfl) ?_
    obtain ⟨v10, e_v10, h⟩ := md_ob h
    refine md_lJ (k := 61) hj cx hw (by decide) rfl rfl rfl e_v10 dX12_stepOther_199 ?_
    obtain ⟨p11, e_p11, h⟩ := md_ob h
    refine hp_callVv (As := [.int l2, .long v10]) (rest := []) cx hw (km_X12_stepField l D cA E _ ad hj hE n σ9 l2 v10 p11 e_p11) (cwV 2 cx.2.2.2.2.2.1 (md_giV mm_686 mm_687 mm_688 mm_5 mm_689) rfl rfl rfl hd_X12_stepField ⟨Nat.le_of_ble_eq_true rfl, Nat.le_of_ble_eq_true rfl⟩) md_at0 rfl rfl hl.1 rfl (Nat.le_of_ble_eq_true rfl) dX12_stepOther_200 ⟨Nat.le_refl _, Nat.le_refl _⟩ (fun u H locs hp hw => ?_)
    obtain rfl := hp
    refine lv_goto (tgt := 365) cx.1 cx.2.1 dX12_stepOther_203 (by decide) ?_
    exact hp_vret cx hw (md_retv h) dX12_stepOther_365
  refine lv_iload_n cx.1 cx.2.1 dX12_stepOther_0 rfl (lv_at hl 2 rfl) ?_
  refine lv_i2l (v := (a2.toInt64)) cx.1 cx.2.1 dX12_stepOther_1 rfl ?_
  refine lv_ldc2 cx.1 cx.2.1 cx.2.2.2.2.1 (cx.2.2.2.2.2.1 _ (List.mem_cons_of_mem _ mm_407)) dX12_stepOther_2 ?_
  refine lv_ldc2 cx.1 cx.2.1 cx.2.2.2.2.1 (cx.2.2.2.2.2.1 _ (List.mem_cons_of_mem _ mm_408)) dX12_stepOther_5 ?_
  obtain ⟨p12, e_p12, h⟩ := md_ob h
  refine hp_callSi (As := [.long (a2.toInt64), .long 11, .long 15]) (rest := []) cx hw (km_X12_in l D cA E _ ad hj hE n σ0 ((a2.toInt64)) (11 : Int64) (15 : Int64) p12 e_p12) (cwS 3 cx.2.2.2.2.2.1 (md_giS mm_3 mm_4 mm_5 mm_6) rfl rfl rfl hd_X12_in ⟨Nat.le_of_ble_eq_true rfl, Nat.le_of_ble_eq_true rfl⟩) rfl hl.1 rfl (Nat.le_of_ble_eq_true rfl) dX12_stepOther_8 ⟨Nat.le_refl _, Nat.le_refl _⟩ (fun r u H locs hp hw => ?_)
  obtain ⟨rfl, rfl⟩ := hp
  refine lv_if_eq (tgt := 30) cx.1 cx.2.1 dX12_stepOther_11 (by decide) (fun c11 => ?_) (fun c11 => ?_)
  · have h := md_ip c11 h
    refine lv_iload_n cx.1 cx.2.1 dX12_stepOther_30 rfl (lv_at hl 2 rfl) ?_
    by_cases c31_4 : a2 = 4
    · refine lv_tableIn (off := 109) (tgt := 140) cx.1 cx.2.1 dX12_stepOther_31 (by rw [c31_4]; decide) (by rw [c31_4]; decide) (by rw [c31_4]; decide) (by decide) ?_
      have h := md_ip c31_4 h
      refine lv_aload_n cx.1 cx.2.1 dX12_stepOther_140 rfl (lv_at hl 0 rfl) ?_
      refine md_gR (k := 113) cx hw hin12c (by decide) (by decide) (List.mem_cons_of_mem _ mm_556) dX12_stepOther_141 ?_
      refine lv_iload_n cx.1 cx.2.1 dX12_stepOther_144 rfl (lv_at hl 1 rfl) ?_
      refine lv_dup2_11 cx.1 cx.2.1 dX12_stepOther_145 rfl rfl ?_
      obtain ⟨v13, e_v13, h⟩ := md_ob h
      refine md_lI (k := 113) hj cx hw (by decide) rfl rfl rfl e_v13 dX12_stepOther_146 ?_
      refine lv_iconst (v := 3) cx.1 cx.2.1 dX12_stepOther_147 (by decide) ?_
      refine lv_iadd cx.1 cx.2.1 dX12_stepOther_148 ?_
      obtain ⟨σ14, e_σ14, h⟩ := md_ob h
      refine md_sI (k := 113) hj cx hw (by decide) rfl rfl rfl e_σ14 dX12_stepOther_149 (fun H locs hw => ?_)
      refine lv_aload_n cx.1 cx.2.1 dX12_stepOther_150 rfl (lv_at hl 0 rfl) ?_
      refine md_gI (k := 95) cx hw hin12c rfl (by decide) (List.mem_cons_of_mem _ mm_594) dX12_stepOther_151 ?_
      refine lv_sipush (v := 2000) cx.1 cx.2.1 dX12_stepOther_154 (by decide) ?_
      refine lv_icmp_ne (tgt := 169) cx.1 cx.2.1 dX12_stepOther_157 (by decide) (fun c157 => ?_) (fun c157 => ?_)
      · have h := md_in c157 h
        refine lv_aload_n cx.1 cx.2.1 dX12_stepOther_169 rfl (lv_at hl 0 rfl) ?_
        refine lv_iconst (v := 2) cx.1 cx.2.1 dX12_stepOther_170 (by decide) ?_
        refine lv_aload_n cx.1 cx.2.1 dX12_stepOther_171 rfl (lv_at hl 0 rfl) ?_
        refine lv_iload_n cx.1 cx.2.1 dX12_stepOther_172 rfl (lv_at hl 3 rfl) ?_
        obtain ⟨p15, e_p15, h⟩ := md_ob h
        refine hp_callVi (As := [.int a3]) (rest := [.int 2, .ref (ad 137)]) cx hw (km_X12_newObject l D cA E _ ad hj hE n σ14 a3 p15 e_p15) (cwV 1 cx.2.2.2.2.2.1 (md_giV mm_650 mm_651 mm_652 mm_5 mm_653) rfl rfl rfl hd_X12_newObject ⟨Nat.le_of_ble_eq_true rfl, Nat.le_of_ble_eq_true rfl⟩) md_at0 rfl rfl hl.1 rfl (Nat.le_of_ble_eq_true rfl) dX12_stepOther_173 ⟨Nat.le_refl _, Nat.le_refl _⟩ (fun r u H locs hp hw => ?_)
        obtain ⟨rfl, rfl⟩ := hp
        obtain ⟨p16, e_p16, h⟩ := md_ob h
        refine hp_callVv (As := [.int 2, .int p15.1]) (rest := []) cx hw (km_X12_push l D cA E _ ad hj hE n p15.2 (2 : Int32) (p15.1) p16 e_p16) (cwV 2 cx.2.2.2.2.2.1 (md_giV mm_558 mm_559 mm_560 mm_5 mm_561) rfl rfl rfl hd_X12_push ⟨Nat.le_of_ble_eq_true rfl, Nat.le_of_ble_eq_true rfl⟩) md_at0 rfl rfl hl.1 rfl (Nat.le_of_ble_eq_true rfl) dX12_stepOther_176 ⟨Nat.le_refl _, Nat.le_refl _⟩ (fun u H locs hp hw => ?_)
        obtain rfl := hp
        refine lv_goto (tgt := 365) cx.1 cx.2.1 dX12_stepOther_179 (by decide) ?_
        exact hp_vret cx hw (md_retv h) dX12_stepOther_365
      · have h := md_ip c157 h
        refine lv_aload_n cx.1 cx.2.1 dX12_stepOther_160 rfl (lv_at hl 0 rfl) ?_
        refine lv_bipush (v := 9) cx.1 cx.2.1 dX12_stepOther_161 (by decide) ?_
        obtain ⟨p17, e_p17, h⟩ := md_ob h
        refine hp_callVv (As := [.int 9]) (rest := []) cx hw (km_X12_failure l D cA E _ ad hj hE n σ14 (9 : Int32) p17 e_p17) (cwV 1 cx.2.2.2.2.2.1 (md_giV mm_575 mm_576 mm_577 mm_5 mm_578) rfl rfl rfl hd_X12_failure ⟨Nat.le_of_ble_eq_true rfl, Nat.le_of_ble_eq_true rfl⟩) md_at0 rfl rfl hl.1 rfl (Nat.le_of_ble_eq_true rfl) dX12_stepOther_163 ⟨Nat.le_refl _, Nat.le_refl _⟩ (fun u H locs hp hw => ?_)
        obtain rfl := hp
        refine lv_goto (tgt := 365) cx.1 cx.2.1 dX12_stepOther_166 (by decide) ?_
        exact hp_vret cx hw (md_retv h) dX12_stepOther_365
    have h := md_in c31_4 h
    by_cases c31_5 : a2 = 5
    · refine lv_tableIn (off := 151) (tgt := 182) cx.1 cx.2.1 dX12_stepOther_31 (by rw [c31_5]; decide) (by rw [c31_5]; decide) (by rw [c31_5]; decide) (by decide) ?_
      have h := md_ip c31_5 h
      exact J182 p12.2 a1 a2 a3 _ _ _ h hw (lv_sub hl [0, 1, 2, 3] rfl)
    have h := md_in c31_5 h
    by_cases c31_6 : a2 = 6
    · refine lv_tableIn (off := 151) (tgt := 182) cx.1 cx.2.1 dX12_stepOther_31 (by rw [c31_6]; decide) (by rw [c31_6]; decide) (by rw [c31_6]; decide) (by decide) ?_
      have h := md_ip c31_6 h
      exact J182 p12.2 a1 a2 a3 _ _ _ h hw (lv_sub hl [0, 1, 2, 3] rfl)
    have h := md_in c31_6 h
    by_cases c31_7 : a2 = 7
    · refine lv_tableIn (off := 175) (tgt := 206) cx.1 cx.2.1 dX12_stepOther_31 (by rw [c31_7]; decide) (by rw [c31_7]; decide) (by rw [c31_7]; decide) (by decide) ?_
      have h := md_ip c31_7 h
      refine lv_aload_n cx.1 cx.2.1 dX12_stepOther_206 rfl (lv_at hl 0 rfl) ?_
      refine md_gR (k := 113) cx hw hin12c (by decide) (by decide) (List.mem_cons_of_mem _ mm_556) dX12_stepOther_207 ?_
      refine lv_iload_n cx.1 cx.2.1 dX12_stepOther_210 rfl (lv_at hl 1 rfl) ?_
      refine lv_dup2_11 cx.1 cx.2.1 dX12_stepOther_211 rfl rfl ?_
      obtain ⟨v18, e_v18, h⟩ := md_ob h
      refine md_lI (k := 113) hj cx hw (by decide) rfl rfl rfl e_v18 dX12_stepOther_212 ?_
      refine lv_iconst (v := 5) cx.1 cx.2.1 dX12_stepOther_213 (by decide) ?_
      refine lv_iadd cx.1 cx.2.1 dX12_stepOther_214 ?_
      obtain ⟨σ19, e_σ19, h⟩ := md_ob h
      refine md_sI (k := 113) hj cx hw (by decide) rfl rfl rfl e_σ19 dX12_stepOther_215 (fun H locs hw => ?_)
      refine lv_aload_n cx.1 cx.2.1 dX12_stepOther_216 rfl (lv_at hl 0 rfl) ?_
      refine lv_aload_n cx.1 cx.2.1 dX12_stepOther_217 rfl (lv_at hl 0 rfl) ?_
      refine md_gR (k := 61) cx hw hin12c (by decide) (by decide) (List.mem_cons_of_mem _ mm_142) dX12_stepOther_218 ?_
      refine lv_iload_n cx.1 cx.2.1 dX12_stepOther_221 rfl (lv_at hl 3 rfl) ?_
      obtain ⟨v20, e_v20, h⟩ := md_ob h
      refine md_lJ (k := 61) hj cx hw (by decide) rfl rfl rfl e_v20 dX12_stepOther_222 ?_
      refine lv_aload_n cx.1 cx.2.1 dX12_stepOther_223 rfl (lv_at hl 0 rfl) ?_
      refine lv_iload cx.1 cx.2.1 dX12_stepOther_224 (lv_at hl 4 rfl) ?_
      refine lv_iconst (v := 3) cx.1 cx.2.1 dX12_stepOther_226 (by decide) ?_
      refine lv_iadd cx.1 cx.2.1 dX12_stepOther_227 ?_
      obtain ⟨p21, e_p21, h⟩ := md_ob h
      refine hp_callVi (As := [.int (a4 + 3)]) (rest := [.long v20, .ref (ad 137)]) cx hw (km_X12_wordAt l D cA E _ ad hj hE n σ19 ((a4 + 3)) p21 e_p21) (cwV 1 cx.2.2.2.2.2.1 (md_giV mm_654 mm_655 mm_656 mm_5 mm_657) rfl rfl rfl hd_X12_wordAt ⟨Nat.le_of_ble_eq_true rfl, Nat.le_of_ble_eq_true rfl⟩) md_at0 rfl rfl hl.1 rfl (Nat.le_of_ble_eq_true rfl) dX12_stepOther_228 ⟨Nat.le_refl _, Nat.le_refl _⟩ (fun r u H locs hp hw => ?_)
      obtain ⟨rfl, rfl⟩ := hp
      obtain ⟨p22, e_p22, h⟩ := md_ob h
      refine hp_callVv (As := [.long v20, .int p21.1]) (rest := []) cx hw (km_X12_sends l D cA E _ ad hj hE n p21.2 v20 (p21.1) p22 e_p22) (cwV 2 cx.2.2.2.2.2.1 (md_giV mm_658 mm_659 mm_660 mm_5 mm_661) rfl rfl rfl hd_X12_sends ⟨Nat.le_of_ble_eq_true rfl, Nat.le_of_ble_eq_true rfl⟩) md_at0 rfl rfl hl.1 rfl (Nat.le_of_ble_eq_true rfl) dX12_stepOther_231 ⟨Nat.le_refl _, Nat.le_refl _⟩ (fun u H locs hp hw => ?_)
      obtain rfl := hp
      refine lv_goto (tgt := 365) cx.1 cx.2.1 dX12_stepOther_234 (by decide) ?_
      exact hp_vret cx hw (md_retv h) dX12_stepOther_365
    have h := md_in c31_7 h
    by_cases c31_8 : a2 = 8
    · refine lv_tableIn (off := 206) (tgt := 237) cx.1 cx.2.1 dX12_stepOther_31 (by rw [c31_8]; decide) (by rw [c31_8]; decide) (by rw [c31_8]; decide) (by decide) ?_
      have h := md_ip c31_8 h
      refine lv_aload_n cx.1 cx.2.1 dX12_stepOther_237 rfl (lv_at hl 0 rfl) ?_
      refine md_gR (k := 113) cx hw hin12c (by decide) (by decide) (List.mem_cons_of_mem _ mm_556) dX12_stepOther_238 ?_
      refine lv_iload_n cx.1 cx.2.1 dX12_stepOther_241 rfl (lv_at hl 1 rfl) ?_
      refine lv_dup2_11 cx.1 cx.2.1 dX12_stepOther_242 rfl rfl ?_
      obtain ⟨v23, e_v23, h⟩ := md_ob h
      refine md_lI (k := 113) hj cx hw (by decide) rfl rfl rfl e_v23 dX12_stepOther_243 ?_
      refine lv_iconst (v := 3) cx.1 cx.2.1 dX12_stepOther_244 (by decide) ?_
      refine lv_iadd cx.1 cx.2.1 dX12_stepOther_245 ?_
      obtain ⟨σ24, e_σ24, h⟩ := md_ob h
      refine md_sI (k := 113) hj cx hw (by decide) rfl rfl rfl e_σ24 dX12_stepOther_246 (fun H locs hw => ?_)
      refine lv_aload_n cx.1 cx.2.1 dX12_stepOther_247 rfl (lv_at hl 0 rfl) ?_
      refine lv_iload_n cx.1 cx.2.1 dX12_stepOther_248 rfl (lv_at hl 3 rfl) ?_
      obtain ⟨p25, e_p25, h⟩ := md_ob h
      refine hp_callVv (As := [.int a3]) (rest := []) cx hw (km_X12_applies l D cA E _ ad hj hE n σ24 a3 p25 e_p25) (cwV 1 cx.2.2.2.2.2.1 (md_giV mm_662 mm_663 mm_664 mm_5 mm_665) rfl rfl rfl hd_X12_applies ⟨Nat.le_of_ble_eq_true rfl, Nat.le_of_ble_eq_true rfl⟩) md_at0 rfl rfl hl.1 rfl (Nat.le_of_ble_eq_true rfl) dX12_stepOther_249 ⟨Nat.le_refl _, Nat.le_refl _⟩ (fun u H locs hp hw => ?_)
      obtain rfl := hp
      refine lv_goto (tgt := 365) cx.1 cx.2.1 dX12_stepOther_252 (by decide) ?_
      exact hp_vret cx hw (md_retv h) dX12_stepOther_365
    have h := md_in c31_8 h
    by_cases c31_9 : a2 = 9
    · refine lv_tableIn (off := 224) (tgt := 255) cx.1 cx.2.1 dX12_stepOther_31 (by rw [c31_9]; decide) (by rw [c31_9]; decide) (by rw [c31_9]; decide) (by decide) ?_
      have h := md_ip c31_9 h
      refine lv_aload_n cx.1 cx.2.1 dX12_stepOther_255 rfl (lv_at hl 0 rfl) ?_
      refine md_gR (k := 113) cx hw hin12c (by decide) (by decide) (List.mem_cons_of_mem _ mm_556) dX12_stepOther_256 ?_
      refine lv_iload_n cx.1 cx.2.1 dX12_stepOther_259 rfl (lv_at hl 1 rfl) ?_
      refine lv_dup2_11 cx.1 cx.2.1 dX12_stepOther_260 rfl rfl ?_
      obtain ⟨v26, e_v26, h⟩ := md_ob h
      refine md_lI (k := 113) hj cx hw (by decide) rfl rfl rfl e_v26 dX12_stepOther_261 ?_
      refine lv_iconst (v := 3) cx.1 cx.2.1 dX12_stepOther_262 (by decide) ?_
      refine lv_iadd cx.1 cx.2.1 dX12_stepOther_263 ?_
      obtain ⟨σ27, e_σ27, h⟩ := md_ob h
      refine md_sI (k := 113) hj cx hw (by decide) rfl rfl rfl e_σ27 dX12_stepOther_264 (fun H locs hw => ?_)
      refine lv_aload_n cx.1 cx.2.1 dX12_stepOther_265 rfl (lv_at hl 0 rfl) ?_
      refine lv_iload_n cx.1 cx.2.1 dX12_stepOther_266 rfl (lv_at hl 3 rfl) ?_
      obtain ⟨p28, e_p28, h⟩ := md_ob h
      refine hp_callVv (As := [.int a3]) (rest := []) cx hw (km_X12_closes l D cA E _ ad hj hE n σ27 a3 p28 e_p28) (cwV 1 cx.2.2.2.2.2.1 (md_giV mm_666 mm_667 mm_668 mm_5 mm_669) rfl rfl rfl hd_X12_closes ⟨Nat.le_of_ble_eq_true rfl, Nat.le_of_ble_eq_true rfl⟩) md_at0 rfl rfl hl.1 rfl (Nat.le_of_ble_eq_true rfl) dX12_stepOther_267 ⟨Nat.le_refl _, Nat.le_refl _⟩ (fun u H locs hp hw => ?_)
      obtain rfl := hp
      refine lv_goto (tgt := 365) cx.1 cx.2.1 dX12_stepOther_270 (by decide) ?_
      exact hp_vret cx hw (md_retv h) dX12_stepOther_365
    have h := md_in c31_9 h
    by_cases c31_10 : a2 = 10
    · refine lv_tableIn (off := 242) (tgt := 273) cx.1 cx.2.1 dX12_stepOther_31 (by rw [c31_10]; decide) (by rw [c31_10]; decide) (by rw [c31_10]; decide) (by decide) ?_
      have h := md_ip c31_10 h
      refine lv_aload_n cx.1 cx.2.1 dX12_stepOther_273 rfl (lv_at hl 0 rfl) ?_
      refine md_gR (k := 113) cx hw hin12c (by decide) (by decide) (List.mem_cons_of_mem _ mm_556) dX12_stepOther_274 ?_
      refine lv_iload_n cx.1 cx.2.1 dX12_stepOther_277 rfl (lv_at hl 1 rfl) ?_
      refine lv_dup2_11 cx.1 cx.2.1 dX12_stepOther_278 rfl rfl ?_
      obtain ⟨v29, e_v29, h⟩ := md_ob h
      refine md_lI (k := 113) hj cx hw (by decide) rfl rfl rfl e_v29 dX12_stepOther_279 ?_
      refine lv_iconst (v := 3) cx.1 cx.2.1 dX12_stepOther_280 (by decide) ?_
      refine lv_iadd cx.1 cx.2.1 dX12_stepOther_281 ?_
      obtain ⟨σ30, e_σ30, h⟩ := md_ob h
      refine md_sI (k := 113) hj cx hw (by decide) rfl rfl rfl e_σ30 dX12_stepOther_282 (fun H locs hw => ?_)
      refine lv_aload_n cx.1 cx.2.1 dX12_stepOther_283 rfl (lv_at hl 0 rfl) ?_
      refine lv_iload_n cx.1 cx.2.1 dX12_stepOther_284 rfl (lv_at hl 3 rfl) ?_
      obtain ⟨p31, e_p31, h⟩ := md_ob h
      refine hp_callVv (As := [.int a3]) (rest := []) cx hw (km_X12_stepPart l D cA E _ ad hj hE n σ30 a3 p31 e_p31) (cwV 1 cx.2.2.2.2.2.1 (md_giV mm_670 mm_671 mm_672 mm_5 mm_673) rfl rfl rfl hd_X12_stepPart ⟨Nat.le_of_ble_eq_true rfl, Nat.le_of_ble_eq_true rfl⟩) md_at0 rfl rfl hl.1 rfl (Nat.le_of_ble_eq_true rfl) dX12_stepOther_285 ⟨Nat.le_refl _, Nat.le_refl _⟩ (fun u H locs hp hw => ?_)
      obtain rfl := hp
      refine lv_goto (tgt := 365) cx.1 cx.2.1 dX12_stepOther_288 (by decide) ?_
      exact hp_vret cx hw (md_retv h) dX12_stepOther_365
    have h := md_in c31_10 h
    by_cases c31_25 : a2 = 25
    · refine lv_tableIn (off := 260) (tgt := 291) cx.1 cx.2.1 dX12_stepOther_31 (by rw [c31_25]; decide) (by rw [c31_25]; decide) (by rw [c31_25]; decide) (by decide) ?_
      have h := md_ip c31_25 h
      exact J291 p12.2 a1 a2 a3 _ _ _ h hw (lv_sub hl [0, 1, 2, 3] rfl)
    have h := md_in c31_25 h
    by_cases c31_26 : a2 = 26
    · refine lv_tableIn (off := 260) (tgt := 291) cx.1 cx.2.1 dX12_stepOther_31 (by rw [c31_26]; decide) (by rw [c31_26]; decide) (by rw [c31_26]; decide) (by decide) ?_
      have h := md_ip c31_26 h
      exact J291 p12.2 a1 a2 a3 _ _ _ h hw (lv_sub hl [0, 1, 2, 3] rfl)
    have h := md_in c31_26 h
    by_cases c31_27 : a2 = 27
    · refine lv_tableIn (off := 279) (tgt := 310) cx.1 cx.2.1 dX12_stepOther_31 (by rw [c31_27]; decide) (by rw [c31_27]; decide) (by rw [c31_27]; decide) (by decide) ?_
      have h := md_ip c31_27 h
      refine lv_aload_n cx.1 cx.2.1 dX12_stepOther_310 rfl (lv_at hl 0 rfl) ?_
      refine md_gR (k := 113) cx hw hin12c (by decide) (by decide) (List.mem_cons_of_mem _ mm_556) dX12_stepOther_311 ?_
      refine lv_iload_n cx.1 cx.2.1 dX12_stepOther_314 rfl (lv_at hl 1 rfl) ?_
      refine lv_dup2_11 cx.1 cx.2.1 dX12_stepOther_315 rfl rfl ?_
      obtain ⟨v32, e_v32, h⟩ := md_ob h
      refine md_lI (k := 113) hj cx hw (by decide) rfl rfl rfl e_v32 dX12_stepOther_316 ?_
      refine lv_iconst (v := 1) cx.1 cx.2.1 dX12_stepOther_317 (by decide) ?_
      refine lv_iadd cx.1 cx.2.1 dX12_stepOther_318 ?_
      obtain ⟨σ33, e_σ33, h⟩ := md_ob h
      refine md_sI (k := 113) hj cx hw (by decide) rfl rfl rfl e_σ33 dX12_stepOther_319 (fun H locs hw => ?_)
      refine lv_aload_n cx.1 cx.2.1 dX12_stepOther_320 rfl (lv_at hl 0 rfl) ?_
      refine lv_iconst (v := 4) cx.1 cx.2.1 dX12_stepOther_321 (by decide) ?_
      refine lv_aload_n cx.1 cx.2.1 dX12_stepOther_322 rfl (lv_at hl 0 rfl) ?_
      refine md_gI (k := 87) cx hw hin12c rfl (by decide) (List.mem_cons_of_mem _ mm_582) dX12_stepOther_323 ?_
      refine lv_if_eq (tgt := 338) cx.1 cx.2.1 dX12_stepOther_326 (by decide) (fun c326 => ?_) (fun c326 => ?_)
      · have h := md_ip c326 h
        refine lv_aload_n cx.1 cx.2.1 dX12_stepOther_338 rfl (lv_at hl 0 rfl) ?_
        refine md_gR (k := 115) cx hw hin12c (by decide) (by decide) (List.mem_cons_of_mem _ mm_580) dX12_stepOther_339 ?_
        refine lv_iload_n cx.1 cx.2.1 dX12_stepOther_342 rfl (lv_at hl 1 rfl) ?_
        obtain ⟨v34, e_v34, h⟩ := md_ob h
        refine md_lI (k := 115) hj cx hw (by decide) rfl rfl rfl e_v34 dX12_stepOther_343 ?_
        exact J344 σ33 v34 4 _ _ _ h hw (lv_sub hl [] rfl)
      · have h := md_in c326 h
        refine lv_aload_n cx.1 cx.2.1 dX12_stepOther_329 rfl (lv_at hl 0 rfl) ?_
        refine md_gR (k := 116) cx hw hin12c (by decide) (by decide) (List.mem_cons_of_mem _ mm_581) dX12_stepOther_330 ?_
        refine lv_iload_n cx.1 cx.2.1 dX12_stepOther_333 rfl (lv_at hl 1 rfl) ?_
        obtain ⟨v35, e_v35, h⟩ := md_ob h
        refine md_lI (k := 116) hj cx hw (by decide) rfl rfl rfl e_v35 dX12_stepOther_334 ?_
        refine lv_goto (tgt := 344) cx.1 cx.2.1 dX12_stepOther_335 (by decide) ?_
        exact J344 σ33 v35 4 _ _ _ h hw (lv_sub hl [] rfl)
    have h := md_in c31_27 h
    have nc31_4 := md_nei c31_4
    have nc31_5 := md_nei c31_5
    have nc31_6 := md_nei c31_6
    have nc31_7 := md_nei c31_7
    have nc31_8 := md_nei c31_8
    have nc31_9 := md_nei c31_9
    have nc31_10 := md_nei c31_10
    have nc31_25 := md_nei c31_25
    have nc31_26 := md_nei c31_26
    have nc31_27 := md_nei c31_27
    by_cases c31_11 : a2 = 11
    · refine lv_tableIn (off := 319) (tgt := 350) cx.1 cx.2.1 dX12_stepOther_31 (by rw [c31_11]; decide) (by rw [c31_11]; decide) (by rw [c31_11]; decide) (by decide) ?_
      exact J350 p12.2 a1 a2 _ _ _ h hw (lv_sub hl [0, 1, 2] rfl)
    have nc31_11 := md_nei c31_11
    by_cases c31_12 : a2 = 12
    · refine lv_tableIn (off := 319) (tgt := 350) cx.1 cx.2.1 dX12_stepOther_31 (by rw [c31_12]; decide) (by rw [c31_12]; decide) (by rw [c31_12]; decide) (by decide) ?_
      exact J350 p12.2 a1 a2 _ _ _ h hw (lv_sub hl [0, 1, 2] rfl)
    have nc31_12 := md_nei c31_12
    by_cases c31_13 : a2 = 13
    · refine lv_tableIn (off := 319) (tgt := 350) cx.1 cx.2.1 dX12_stepOther_31 (by rw [c31_13]; decide) (by rw [c31_13]; decide) (by rw [c31_13]; decide) (by decide) ?_
      exact J350 p12.2 a1 a2 _ _ _ h hw (lv_sub hl [0, 1, 2] rfl)
    have nc31_13 := md_nei c31_13
    by_cases c31_14 : a2 = 14
    · refine lv_tableIn (off := 319) (tgt := 350) cx.1 cx.2.1 dX12_stepOther_31 (by rw [c31_14]; decide) (by rw [c31_14]; decide) (by rw [c31_14]; decide) (by decide) ?_
      exact J350 p12.2 a1 a2 _ _ _ h hw (lv_sub hl [0, 1, 2] rfl)
    have nc31_14 := md_nei c31_14
    by_cases c31_15 : a2 = 15
    · refine lv_tableIn (off := 319) (tgt := 350) cx.1 cx.2.1 dX12_stepOther_31 (by rw [c31_15]; decide) (by rw [c31_15]; decide) (by rw [c31_15]; decide) (by decide) ?_
      exact J350 p12.2 a1 a2 _ _ _ h hw (lv_sub hl [0, 1, 2] rfl)
    have nc31_15 := md_nei c31_15
    by_cases c31_16 : a2 = 16
    · refine lv_tableIn (off := 319) (tgt := 350) cx.1 cx.2.1 dX12_stepOther_31 (by rw [c31_16]; decide) (by rw [c31_16]; decide) (by rw [c31_16]; decide) (by decide) ?_
      exact J350 p12.2 a1 a2 _ _ _ h hw (lv_sub hl [0, 1, 2] rfl)
    have nc31_16 := md_nei c31_16
    by_cases c31_17 : a2 = 17
    · refine lv_tableIn (off := 319) (tgt := 350) cx.1 cx.2.1 dX12_stepOther_31 (by rw [c31_17]; decide) (by rw [c31_17]; decide) (by rw [c31_17]; decide) (by decide) ?_
      exact J350 p12.2 a1 a2 _ _ _ h hw (lv_sub hl [0, 1, 2] rfl)
    have nc31_17 := md_nei c31_17
    by_cases c31_18 : a2 = 18
    · refine lv_tableIn (off := 319) (tgt := 350) cx.1 cx.2.1 dX12_stepOther_31 (by rw [c31_18]; decide) (by rw [c31_18]; decide) (by rw [c31_18]; decide) (by decide) ?_
      exact J350 p12.2 a1 a2 _ _ _ h hw (lv_sub hl [0, 1, 2] rfl)
    have nc31_18 := md_nei c31_18
    by_cases c31_19 : a2 = 19
    · refine lv_tableIn (off := 319) (tgt := 350) cx.1 cx.2.1 dX12_stepOther_31 (by rw [c31_19]; decide) (by rw [c31_19]; decide) (by rw [c31_19]; decide) (by decide) ?_
      exact J350 p12.2 a1 a2 _ _ _ h hw (lv_sub hl [0, 1, 2] rfl)
    have nc31_19 := md_nei c31_19
    by_cases c31_20 : a2 = 20
    · refine lv_tableIn (off := 319) (tgt := 350) cx.1 cx.2.1 dX12_stepOther_31 (by rw [c31_20]; decide) (by rw [c31_20]; decide) (by rw [c31_20]; decide) (by decide) ?_
      exact J350 p12.2 a1 a2 _ _ _ h hw (lv_sub hl [0, 1, 2] rfl)
    have nc31_20 := md_nei c31_20
    by_cases c31_21 : a2 = 21
    · refine lv_tableIn (off := 319) (tgt := 350) cx.1 cx.2.1 dX12_stepOther_31 (by rw [c31_21]; decide) (by rw [c31_21]; decide) (by rw [c31_21]; decide) (by decide) ?_
      exact J350 p12.2 a1 a2 _ _ _ h hw (lv_sub hl [0, 1, 2] rfl)
    have nc31_21 := md_nei c31_21
    by_cases c31_22 : a2 = 22
    · refine lv_tableIn (off := 319) (tgt := 350) cx.1 cx.2.1 dX12_stepOther_31 (by rw [c31_22]; decide) (by rw [c31_22]; decide) (by rw [c31_22]; decide) (by decide) ?_
      exact J350 p12.2 a1 a2 _ _ _ h hw (lv_sub hl [0, 1, 2] rfl)
    have nc31_22 := md_nei c31_22
    by_cases c31_23 : a2 = 23
    · refine lv_tableIn (off := 319) (tgt := 350) cx.1 cx.2.1 dX12_stepOther_31 (by rw [c31_23]; decide) (by rw [c31_23]; decide) (by rw [c31_23]; decide) (by decide) ?_
      exact J350 p12.2 a1 a2 _ _ _ h hw (lv_sub hl [0, 1, 2] rfl)
    have nc31_23 := md_nei c31_23
    by_cases c31_24 : a2 = 24
    · refine lv_tableIn (off := 319) (tgt := 350) cx.1 cx.2.1 dX12_stepOther_31 (by rw [c31_24]; decide) (by rw [c31_24]; decide) (by rw [c31_24]; decide) (by decide) ?_
      exact J350 p12.2 a1 a2 _ _ _ h hw (lv_sub hl [0, 1, 2] rfl)
    have nc31_24 := md_nei c31_24
    refine lv_tableOut (tgt := 350) cx.1 cx.2.1 dX12_stepOther_31 (by have := nc31_4; rw [show ((4 : Int32)).toInt = 4 from by decide] at this; have := nc31_5; rw [show ((5 : Int32)).toInt = 5 from by decide] at this; have := nc31_6; rw [show ((6 : Int32)).toInt = 6 from by decide] at this; have := nc31_7; rw [show ((7 : Int32)).toInt = 7 from by decide] at this; have := nc31_8; rw [show ((8 : Int32)).toInt = 8 from by decide] at this; have := nc31_9; rw [show ((9 : Int32)).toInt = 9 from by decide] at this; have := nc31_10; rw [show ((10 : Int32)).toInt = 10 from by decide] at this; have := nc31_25; rw [show ((25 : Int32)).toInt = 25 from by decide] at this; have := nc31_26; rw [show ((26 : Int32)).toInt = 26 from by decide] at this; have := nc31_27; rw [show ((27 : Int32)).toInt = 27 from by decide] at this; have := nc31_11; rw [show ((11 : Int32)).toInt = 11 from by decide] at this; have := nc31_12; rw [show ((12 : Int32)).toInt = 12 from by decide] at this; have := nc31_13; rw [show ((13 : Int32)).toInt = 13 from by decide] at this; have := nc31_14; rw [show ((14 : Int32)).toInt = 14 from by decide] at this; have := nc31_15; rw [show ((15 : Int32)).toInt = 15 from by decide] at this; have := nc31_16; rw [show ((16 : Int32)).toInt = 16 from by decide] at this; have := nc31_17; rw [show ((17 : Int32)).toInt = 17 from by decide] at this; have := nc31_18; rw [show ((18 : Int32)).toInt = 18 from by decide] at this; have := nc31_19; rw [show ((19 : Int32)).toInt = 19 from by decide] at this; have := nc31_20; rw [show ((20 : Int32)).toInt = 20 from by decide] at this; have := nc31_21; rw [show ((21 : Int32)).toInt = 21 from by decide] at this; have := nc31_22; rw [show ((22 : Int32)).toInt = 22 from by decide] at this; have := nc31_23; rw [show ((23 : Int32)).toInt = 23 from by decide] at this; have := nc31_24; rw [show ((24 : Int32)).toInt = 24 from by decide] at this;  omega) (by decide) ?_
    exact J350 p12.2 a1 a2 _ _ _ h hw (lv_sub hl [0, 1, 2] rfl)
  · have h := md_in c11 h
    refine lv_aload_n cx.1 cx.2.1 dX12_stepOther_14 rfl (lv_at hl 0 rfl) ?_
    refine md_gR (k := 113) cx hw hin12c (by decide) (by decide) (List.mem_cons_of_mem _ mm_556) dX12_stepOther_15 ?_
    refine lv_iload_n cx.1 cx.2.1 dX12_stepOther_18 rfl (lv_at hl 1 rfl) ?_
    refine lv_dup2_11 cx.1 cx.2.1 dX12_stepOther_19 rfl rfl ?_
    obtain ⟨v36, e_v36, h⟩ := md_ob h
    refine md_lI (k := 113) hj cx hw (by decide) rfl rfl rfl e_v36 dX12_stepOther_20 ?_
    refine lv_iconst (v := 1) cx.1 cx.2.1 dX12_stepOther_21 (by decide) ?_
    refine lv_iadd cx.1 cx.2.1 dX12_stepOther_22 ?_
    obtain ⟨σ37, e_σ37, h⟩ := md_ob h
    refine md_sI (k := 113) hj cx hw (by decide) rfl rfl rfl e_σ37 dX12_stepOther_23 (fun H locs hw => ?_)
    refine lv_aload_n cx.1 cx.2.1 dX12_stepOther_24 rfl (lv_at hl 0 rfl) ?_
    refine lv_iload_n cx.1 cx.2.1 dX12_stepOther_25 rfl (lv_at hl 2 rfl) ?_
    obtain ⟨p38, e_p38, h⟩ := md_ob h
    refine hp_callVv (As := [.int a2]) (rest := []) cx hw (km_X12_reckons l D cA E _ ad hj hE n σ37 a2 p38 e_p38) (cwV 1 cx.2.2.2.2.2.1 (md_giV mm_674 mm_675 mm_676 mm_5 mm_677) rfl rfl rfl hd_X12_reckons ⟨Nat.le_of_ble_eq_true rfl, Nat.le_of_ble_eq_true rfl⟩) md_at0 rfl rfl hl.1 rfl (Nat.le_of_ble_eq_true rfl) dX12_stepOther_26 ⟨Nat.le_refl _, Nat.le_refl _⟩ (fun u H locs hp hw => ?_)
    obtain rfl := hp
    exact hp_vret cx hw (md_retv h) dX12_stepOther_29
