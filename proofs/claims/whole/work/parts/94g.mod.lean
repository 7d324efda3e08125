set_option maxHeartbeats 4000000 in
set_option maxRecDepth 100000 in
theorem km_X12_writeAll (l : Launch) (D : va_G) (cA : Nat → ClassId) (E : hp_N) (sz : Nat) (ad : Nat → Nat) (hj : md_inj ad) (hE : md_E E) (n : Nat) (σ0 : md_S) (p : (Int32 × md_S)) (h : f_X12_writeAll n σ0 = some p) : Met l yX12_writeAll (Cond.code yX12_writeAll cX12_writeAll 3 none :: v_MOD) ({ frames := 1806, cells := 0, slots := 0, locals := 43332 }) (hp_Pc D vwCl (hp_Tl cA) E sz (md_pic cA ad σ0) [.ref (ad 137)]) (hp_Qv D vwCl (hp_Tl cA) sz (md_pic cA ad σ0) (fun u => u = md_pic cA ad p.2)) 0 0 (hp_A (md_pic cA ad σ0) sz) := by
  refine hp_ofW (cc := cX12_writeAll) (maxL := 3) (ret := none) (by decide) rfl (Nat.le_of_ble_eq_true rfl) ?_
  intro pp ee ss mm bb mt cd ls cx hsz hw hl
  have hl : lv_has ls 3 [(0, .ref (ad 137))] := hl
  refine lv_aload_n cx.1 cx.2.1 dX12_writeAll_0 rfl (lv_at hl 0 rfl) ?_
  refine lv_iconst (v := 0) cx.1 cx.2.1 dX12_writeAll_1 (by decide) ?_
  obtain ⟨σ1, e_σ1, h⟩ := md_ob h
  refine md_pI (k := 75) cx hw hin12c rfl (by decide) rfl (List.mem_cons_of_mem _ mm_394) rfl e_σ1 dX12_writeAll_2 (fun H locs hw => ?_)
  refine lv_iconst (v := 0) cx.1 cx.2.1 dX12_writeAll_5 (by decide) ?_
  refine lv_istore_n (lv' := [(1, .int 0), (0, .ref (ad 137))]) cx.1 cx.2.1 dX12_writeAll_6 rfl hl (by decide) rfl (fun ls hl => ?_)
  have L7 : ∀ (j : Nat) (σ : md_S) (l1 : Int32) (q : (md_S × Int32)) (H : Heap) (locs : List Loc) (ls : Array Slot), f_X12_writeAll_L7 n j σ l1 = some q → hp_w D vwCl (hp_Tl cA) E (hp_A (md_pic cA ad σ0) sz) ss H locs (md_pic cA ad σ) → lv_has ls 3 [(0, .ref (ad 137)), (1, .int l1)] → (∀ (H : Heap) (locs : List Loc) (ls : Array Slot), hp_w D vwCl (hp_Tl cA) E (hp_A (md_pic cA ad σ0) sz) ss H locs (md_pic cA ad q.1) → lv_has ls 3 [] → W pp l ee ({ frames := 1806, cells := 0, slots := 0, locals := 43332 }) ss mm [.ref (ad 137)].toArray bb mt cd H locs 0 0 (MQ bb (hp_Qv D vwCl (hp_Tl cA) sz (md_pic cA ad σ0) (fun u => u = md_pic cA ad p.2)) [.ref (ad 137)].toArray ss 0 0 (hp_A (md_pic cA ad σ0) sz)) (F0 mm 118 ls [])) → W pp l ee ({ frames := 1806, cells := 0, slots := 0, locals := 43332 }) ss mm [.ref (ad 137)].toArray bb mt cd H locs 0 0 (MQ bb (hp_Qv D vwCl (hp_Tl cA) sz (md_pic cA ad σ0) (fun u => u = md_pic cA ad p.2)) [.ref (ad 137)].toArray ss 0 0 (hp_A (md_pic cA ad σ0) sz)) (F0 mm 7 ls []) := by
    intro j
    induction j with
    | zero => intro σ l1 q H locs ls h; exact nomatch h
    | succ j ih =>
      intro σ l1 q H locs ls h hw hl K
      have J23 : ∀ (σ : md_S) (l1 : Int32) (t0 : Int32) (H : Heap) (locs : List Loc) (ls : Array Slot), f_X12_writeAll_J23 n (f_X12_writeAll_L7 n j) σ l1 t0 = some q → hp_w D vwCl (hp_Tl cA) E (hp_A (md_pic cA ad σ0) sz) ss H locs (md_pic cA ad σ) → lv_has ls 3 [(0, .ref (ad 137)), (1, .int l1)] → W pp l ee ({ frames := 1806, cells := 0, slots := 0, locals := 43332 }) ss mm [.ref (ad 137)].toArray bb mt cd H locs 0 0 (MQ bb (hp_Qv D vwCl (hp_Tl cA) sz (md_pic cA ad σ0) (fun u => u = md_pic cA ad p.2)) [.ref (ad 137)].toArray ss 0 0 (hp_A (md_pic cA ad σ0) sz)) (F0 mm 23 ls [.int t0, .ref (ad 137)]) := by
        intro σ l1 t0 H locs ls h hw hl
        obtain ⟨z2, e_z2, h⟩ := md_ob h
        obtain ⟨σ3, e_σ3, h⟩ := md_ob h
        refine md_pZ (k := 78) cx hw hin12c rfl (by decide) rfl (List.mem_cons_of_mem _ mm_409) rfl (md_zbs e_z2).2 e_σ3 dX12_writeAll_23 (fun H locs hw => ?_)
        refine lv_iconst (v := 0) cx.1 cx.2.1 dX12_writeAll_26 (by decide) ?_
        refine lv_istore_n (lv' := [(2, .int 0), (0, .ref (ad 137)), (1, .int l1)]) cx.1 cx.2.1 dX12_writeAll_27 rfl hl (by decide) rfl (fun ls hl => ?_)
        have L28 : ∀ (j : Nat) (σ : md_S) (l1 : Int32) (l2 : Int32) (q : (md_S × Int32)) (H : Heap) (locs : List Loc) (ls : Array Slot), f_X12_writeAll_L28 n l1 j σ l2 = some q → hp_w D vwCl (hp_Tl cA) E (hp_A (md_pic cA ad σ0) sz) ss H locs (md_pic cA ad σ) → lv_has ls 3 [(0, .ref (ad 137)), (1, .int l1), (2, .int l2)] → (∀ (H : Heap) (locs : List Loc) (ls : Array Slot), hp_w D vwCl (hp_Tl cA) E (hp_A (md_pic cA ad σ0) sz) ss H locs (md_pic cA ad q.1) → lv_has ls 3 [(0, .ref (ad 137)), (1, .int l1)] → W pp l ee ({ frames := 1806, cells := 0, slots := 0, locals := 43332 }) ss mm [.ref (ad 137)].toArray bb mt cd H locs 0 0 (MQ bb (hp_Qv D vwCl (hp_Tl cA) sz (md_pic cA ad σ0) (fun u => u = md_pic cA ad p.2)) [.ref (ad 137)].toArray ss 0 0 (hp_A (md_pic cA ad σ0) sz)) (F0 mm 112 ls [])) → W pp l ee ({ frames := 1806, cells := 0, slots := 0, locals := 43332 }) ss mm [.ref (ad 137)].toArray bb mt cd H locs 0 0 (MQ bb (hp_Qv D vwCl (hp_Tl cA) sz (md_pic cA ad σ0) (fun u => u = md_pic cA ad p.2)) [.ref (ad 137)].toArray ss 0 0 (hp_A (md_pic cA ad σ0) sz)) (F0 mm 28 ls []) := by
          intro j
          induction j with
          | zero => intro σ l1 l2 q H locs ls h; exact nomatch h
          | succ j ih =>
            intro σ l1 l2 q H locs ls h hw hl K
            have J76 : ∀ (σ : md_S) (l2 : Int32) (H : Heap) (locs : List Loc) (ls : Array Slot), f_X12_writeAll_J76 n l1 (f_X12_writeAll_L28 n l1 j) σ l2 = some q → hp_w D vwCl (hp_Tl cA) E (hp_A (md_pic cA ad σ0) sz) ss H locs (md_pic cA ad σ) → lv_has ls 3 [(0, .ref (ad 137)), (1, .int l1), (2, .int l2)] → W pp l ee ({ frames := 1806, cells := 0, slots := 0, locals := 43332 }) ss mm [.ref (ad 137)].toArray bb mt cd H locs 0 0 (MQ bb (hp_Qv D vwCl (hp_Tl cA) sz (md_pic cA ad σ0) (fun u => u = md_pic cA ad p.2)) [.ref (ad 137)].toArray ss 0 0 (hp_A (md_pic cA ad σ0) sz)) (F0 mm 76 ls []) := by
              intro σ l2 H locs ls h hw hl
              refine lv_aload_n cx.1 cx.2.1 dX12_writeAll_76 rfl (lv_at hl 0 rfl) ?_
              refine lv_aload_n cx.1 cx.2.1 dX12_writeAll_77 rfl (lv_at hl 0 rfl) ?_
              refine md_gR (k := 41) cx hw hin12c (by decide) (by decide) (List.mem_cons_of_mem _ mm_261) dX12_writeAll_78 ?_
              refine lv_iload_n cx.1 cx.2.1 dX12_writeAll_81 rfl (lv_at hl 2 rfl) ?_
              obtain ⟨v4, e_v4, h⟩ := md_ob h
              refine md_lI (k := 41) hj cx hw (by decide) rfl rfl rfl e_v4 dX12_writeAll_82 ?_
              obtain ⟨p5, e_p5, h⟩ := md_ob h
              refine hp_callVv (As := [.int v4]) (rest := []) cx hw (og_X12_write l D cA E ad hj hE n _ σ v4 p5 e_p5) (cwV 1 cx.2.2.2.2.2.1 (md_giV mm_420 mm_421 mm_422 mm_5 mm_423) rfl rfl rfl hd_X12_write ⟨Nat.le_of_ble_eq_true rfl, Nat.le_of_ble_eq_true rfl⟩) md_at0 rfl rfl hl.1 rfl (Nat.le_of_ble_eq_true rfl) dX12_writeAll_83 ⟨Nat.le_refl _, Nat.le_refl _⟩ (fun u H locs hp hw => ?_)
              obtain rfl := hp
              refine lv_aload_n cx.1 cx.2.1 dX12_writeAll_86 rfl (lv_at hl 0 rfl) ?_
              refine lv_bipush (v := 28) cx.1 cx.2.1 dX12_writeAll_87 (by decide) ?_
              obtain ⟨p6, e_p6, h⟩ := md_ob h
              refine hp_callVv (As := [.int 28]) (rest := []) cx hw (km_X12_put l D cA E _ ad hj hE n p5.2 (28 : Int32) p6 e_p6) (cwV 1 cx.2.2.2.2.2.1 (md_giV mm_395 mm_396 mm_397 mm_5 mm_398) rfl rfl rfl hd_X12_put ⟨Nat.le_of_ble_eq_true rfl, Nat.le_of_ble_eq_true rfl⟩) md_at0 rfl rfl hl.1 rfl (Nat.le_of_ble_eq_true rfl) dX12_writeAll_89 ⟨Nat.le_refl _, Nat.le_refl _⟩ (fun u H locs hp hw => ?_)
              obtain rfl := hp
              refine lv_aload_n cx.1 cx.2.1 dX12_writeAll_92 rfl (lv_at hl 0 rfl) ?_
              refine md_gR (k := 77) cx hw hin12c (by decide) (by decide) (List.mem_cons_of_mem _ mm_467) dX12_writeAll_93 ?_
              refine lv_iconst (v := 2) cx.1 cx.2.1 dX12_writeAll_96 (by decide) ?_
              refine lv_iload_n cx.1 cx.2.1 dX12_writeAll_97 rfl (lv_at hl 2 rfl) ?_
              refine lv_imul cx.1 cx.2.1 dX12_writeAll_98 ?_
              refine lv_iload_n cx.1 cx.2.1 dX12_writeAll_99 rfl (lv_at hl 1 rfl) ?_
              refine lv_iadd cx.1 cx.2.1 dX12_writeAll_100 ?_
              refine lv_aload_n cx.1 cx.2.1 dX12_writeAll_101 rfl (lv_at hl 0 rfl) ?_
              refine md_gI (k := 75) cx hw hin12c rfl (by decide) (List.mem_cons_of_mem _ mm_394) dX12_writeAll_102 ?_
              obtain ⟨σ7, e_σ7, h⟩ := md_ob h
              refine md_sI (k := 77) hj cx hw (by decide) rfl rfl rfl e_σ7 dX12_writeAll_105 (fun H locs hw => ?_)
              refine lv_iinc (v := (l2 + 1)) (lv' := [(2, .int (l2 + 1)), (0, .ref (ad 137)), (1, .int l1)]) cx.1 cx.2.1 dX12_writeAll_106 hl (k := 2) rfl rfl (by decide) rfl (fun ls hl => ?_)
              refine lv_goto (tgt := 28) cx.1 cx.2.1 dX12_writeAll_109 (by decide) ?_
              exact ih σ7 l1 ((l2 + 1)) q _ _ _ h hw (lv_sub hl [1, 2, 0] rfl) K
            refine lv_iload_n cx.1 cx.2.1 dX12_writeAll_28 rfl (lv_at hl 2 rfl) ?_
            refine lv_aload_n cx.1 cx.2.1 dX12_writeAll_29 rfl (lv_at hl 0 rfl) ?_
            refine md_gI (k := 35) cx hw hin12c rfl (by decide) (List.mem_cons_of_mem _ mm_143) dX12_writeAll_30 ?_
            refine lv_icmp_ge (tgt := 112) cx.1 cx.2.1 dX12_writeAll_33 (by decide) (fun c33 => ?_) (fun c33 => ?_)
            · have h := md_ip c33 h
              obtain rfl := Option.some.inj h
              exact K _ _ _ hw (lv_sub hl [0, 1] rfl)
            · have h := md_in c33 h
              refine lv_aload_n cx.1 cx.2.1 dX12_writeAll_36 rfl (lv_at hl 0 rfl) ?_
              refine lv_iload_n cx.1 cx.2.1 dX12_writeAll_37 rfl (lv_at hl 2 rfl) ?_
              obtain ⟨σ8, e_σ8, h⟩ := md_ob h
              refine md_pI (k := 79) cx hw hin12c rfl (by decide) rfl (List.mem_cons_of_mem _ mm_410) rfl e_σ8 dX12_writeAll_38 (fun H locs hw => ?_)
              refine lv_aload_n cx.1 cx.2.1 dX12_writeAll_41 rfl (lv_at hl 0 rfl) ?_
              refine md_gR (k := 76) cx hw hin12c (by decide) (by decide) (List.mem_cons_of_mem _ mm_415) dX12_writeAll_42 ?_
              refine lv_iconst (v := 2) cx.1 cx.2.1 dX12_writeAll_45 (by decide) ?_
              refine lv_iload_n cx.1 cx.2.1 dX12_writeAll_46 rfl (lv_at hl 2 rfl) ?_
              refine lv_imul cx.1 cx.2.1 dX12_writeAll_47 ?_
              refine lv_iload_n cx.1 cx.2.1 dX12_writeAll_48 rfl (lv_at hl 1 rfl) ?_
              refine lv_iadd cx.1 cx.2.1 dX12_writeAll_49 ?_
              refine lv_aload_n cx.1 cx.2.1 dX12_writeAll_50 rfl (lv_at hl 0 rfl) ?_
              refine md_gI (k := 75) cx hw hin12c rfl (by decide) (List.mem_cons_of_mem _ mm_394) dX12_writeAll_51 ?_
              obtain ⟨σ9, e_σ9, h⟩ := md_ob h
              refine md_sI (k := 76) hj cx hw (by decide) rfl rfl rfl e_σ9 dX12_writeAll_54 (fun H locs hw => ?_)
              refine lv_aload_n cx.1 cx.2.1 dX12_writeAll_55 rfl (lv_at hl 0 rfl) ?_
              refine md_gI (k := 78) cx hw hin12c rfl (by decide) (List.mem_cons_of_mem _ mm_409) dX12_writeAll_56 ?_
              refine lv_if_eq (tgt := 76) cx.1 cx.2.1 dX12_writeAll_59 (by decide) (fun c59 => ?_) (fun c59 => ?_)
              · have h := md_ip c59 h
                exact J76 σ9 l2 _ _ _ h hw (lv_sub hl [0, 1, 2] rfl)
              · have h := md_in c59 h
                refine lv_aload_n cx.1 cx.2.1 dX12_writeAll_62 rfl (lv_at hl 0 rfl) ?_
                refine md_gR (k := 47) cx hw hin12c (by decide) (by decide) (List.mem_cons_of_mem _ mm_144) dX12_writeAll_63 ?_
                refine lv_iload_n cx.1 cx.2.1 dX12_writeAll_66 rfl (lv_at hl 2 rfl) ?_
                obtain ⟨v10, e_v10, h⟩ := md_ob h
                refine md_lZ (k := 47) hj cx hw (by decide) rfl rfl rfl e_v10 dX12_writeAll_67 ?_
                refine lv_if_eq (tgt := 76) cx.1 cx.2.1 dX12_writeAll_68 (by decide) (fun c68 => ?_) (fun c68 => ?_)
                · have h := md_ip c68 h
                  exact J76 σ9 l2 _ _ _ h hw (lv_sub hl [0, 1, 2] rfl)
                · have h := md_in c68 h
                  refine lv_aload_n cx.1 cx.2.1 dX12_writeAll_71 rfl (lv_at hl 0 rfl) ?_
                  refine lv_iload_n cx.1 cx.2.1 dX12_writeAll_72 rfl (lv_at hl 2 rfl) ?_
                  obtain ⟨p11, e_p11, h⟩ := md_ob h
                  refine hp_callVv (As := [.int l2]) (rest := []) cx hw (km_X12_opening l D cA E _ ad hj hE n σ9 l2 p11 e_p11) (cwV 1 cx.2.2.2.2.2.1 (md_giV mm_463 mm_464 mm_465 mm_5 mm_466) rfl rfl rfl hd_X12_opening ⟨Nat.le_of_ble_eq_true rfl, Nat.le_of_ble_eq_true rfl⟩) md_at0 rfl rfl hl.1 rfl (Nat.le_of_ble_eq_true rfl) dX12_writeAll_73 ⟨Nat.le_refl _, Nat.le_refl _⟩ (fun u H locs hp hw => ?_)
                  obtain rfl := hp
                  exact J76 p11.2 l2 _ _ _ h hw (lv_sub hl [0, 1, 2] rfl)
        obtain ⟨q12, e_q12, h⟩ := md_ob h
        refine L28 n σ3 l1 0 q12 _ _ _ e_q12 hw (lv_sub hl [1, 2, 0] rfl) (fun H locs ls hw hl => ?_)
        refine lv_iinc (v := (l1 + 1)) (lv' := [(1, .int (l1 + 1)), (0, .ref (ad 137))]) cx.1 cx.2.1 dX12_writeAll_112 hl (k := 1) rfl rfl (by decide) rfl (fun ls hl => ?_)
        refine lv_goto (tgt := 7) cx.1 cx.2.1 dX12_writeAll_115 (by decide) ?_
        exact ih q12.1 ((l1 + 1)) q _ _ _ h hw (lv_sub hl [1, 0] rfl) K
      refine lv_iload_n cx.1 cx.2.1 dX12_writeAll_7 rfl (lv_at hl 1 rfl) ?_
      refine lv_iconst (v := 2) cx.1 cx.2.1 dX12_writeAll_8 (by decide) ?_
      refine lv_icmp_ge (tgt := 118) cx.1 cx.2.1 dX12_writeAll_9 (by decide) (fun c9 => ?_) (fun c9 => ?_)
      · have h := md_ip c9 h
        obtain rfl := Option.some.inj h
        exact K _ _ _ hw (lv_sub hl [] rfl)
      · have h := md_in c9 h
        refine lv_aload_n cx.1 cx.2.1 dX12_writeAll_12 rfl (lv_at hl 0 rfl) ?_
        refine lv_iload_n cx.1 cx.2.1 dX12_writeAll_13 rfl (lv_at hl 1 rfl) ?_
        refine lv_iconst (v := 1) cx.1 cx.2.1 dX12_writeAll_14 (by decide) ?_
        refine lv_icmp_ne (tgt := 22) cx.1 cx.2.1 dX12_writeAll_15 (by decide) (fun c15 => ?_) (fun c15 => ?_)
        · have h := md_in c15 h
          refine lv_iconst (v := 0) cx.1 cx.2.1 dX12_writeAll_22 (by decide) ?_
          exact J23 σ l1 0 _ _ _ h hw (lv_sub hl [0, 1] rfl)
        · have h := md_ip c15 h
          refine lv_iconst (v := 1) cx.1 cx.2.1 dX12_writeAll_18 (by decide) ?_
          refine lv_goto (tgt := 23) cx.1 cx.2.1 dX12_writeAll_19 (by decide) ?_
          exact J23 σ l1 1 _ _ _ h hw (lv_sub hl [0, 1] rfl)
  obtain ⟨q13, e_q13, h⟩ := md_ob h
  refine L7 n σ1 0 q13 _ _ _ e_q13 hw (lv_sub hl [1, 0] rfl) (fun H locs ls hw hl => ?_)
  exact hp_vret cx hw (md_retv h) dX12_writeAll_118
set_option maxHeartbeats 4000000 in
set_option maxRecDepth 100000 in
theorem km_X12_program (l : Launch) (D : va_G) (cA : Nat → ClassId) (E : hp_N) (sz : Nat) (ad : Nat → Nat) (hj : md_inj ad) (hE : md_E E) (n : Nat) (σ0 : md_S) (p : (Int32 × md_S)) (h : f_X12_program n σ0 = some p) : Met l yX12_program (Cond.code yX12_program cX12_program 2 (some .int) :: v_MOD) ({ frames := 1807, cells := 0, slots := 0, locals := 43400 }) (hp_Pc D vwCl (hp_Tl cA) E sz (md_pic cA ad σ0) [.ref (ad 137)]) (hp_Qi D vwCl (hp_Tl cA) sz (md_pic cA ad σ0) (fun r u => r = p.1 ∧ u = md_pic cA ad p.2)) 0 0 (hp_A (md_pic cA ad σ0) sz) := by
  refine hp_ofW (cc := cX12_program) (maxL := 2) (ret := (some .int)) (by decide) rfl (Nat.le_of_ble_eq_true rfl) ?_
  intro pp ee ss mm bb mt cd ls cx hsz hw hl
  have hl : lv_has ls 2 [(0, .ref (ad 137))] := hl
  have J165 : ∀ (σ : md_S) (t0 : Int32) (H : Heap) (locs : List Loc) (ls : Array Slot), f_X12_program_J165 n σ t0 = some p → hp_w D vwCl (hp_Tl cA) E (hp_A (md_pic cA ad σ0) sz) ss H locs (md_pic cA ad σ) → lv_has ls 2 [(0, .ref (ad 137))] → W pp l ee ({ frames := 1807, cells := 0, slots := 0, locals := 43400 }) ss mm [.ref (ad 137)].toArray bb mt cd H locs 0 0 (MQ bb (hp_Qi D vwCl (hp_Tl cA) sz (md_pic cA ad σ0) (fun r u => r = p.1 ∧ u = md_pic cA ad p.2)) [.ref (ad 137)].toArray ss 0 0 (hp_A (md_pic cA ad σ0) sz)) (F0 mm 165 ls [.int t0, .ref (ad 137)]) := by
    intro σ t0 H locs ls h hw hl
    obtain ⟨σ1, e_σ1, h⟩ := md_ob h
    refine md_pI (k := 0) cx hw hin12c rfl (by decide) rfl (List.mem_cons_of_mem _ mm_0) rfl e_σ1 dX12_program_165 (fun H locs hw => ?_)
    refine lv_aload_n cx.1 cx.2.1 dX12_program_168 rfl (lv_at hl 0 rfl) ?_
    refine md_gI (k := 5) cx hw hin12c rfl (by decide) (List.mem_cons_of_mem _ mm_469) dX12_program_169 ?_
    refine lv_if_ne (tgt := 177) cx.1 cx.2.1 dX12_program_172 (by decide) (fun c172 => ?_) (fun c172 => ?_)
    · have h := md_in c172 h
      refine lv_aload_n cx.1 cx.2.1 dX12_program_177 rfl (lv_at hl 0 rfl) ?_
      obtain ⟨p2, e_p2, h⟩ := md_ob h
      refine hp_callVv (As := []) (rest := []) cx hw (km_X12_findDomains l D cA E _ ad hj hE n σ1  p2 e_p2) (cwV 0 cx.2.2.2.2.2.1 (md_giV mm_474 mm_475 mm_476 mm_5 mm_477) rfl rfl rfl hd_X12_findDomains ⟨Nat.le_of_ble_eq_true rfl, Nat.le_of_ble_eq_true rfl⟩) md_at0 rfl rfl hl.1 rfl (Nat.le_of_ble_eq_true rfl) dX12_program_178 ⟨Nat.le_refl _, Nat.le_refl _⟩ (fun u H locs hp hw => ?_)
      obtain rfl := hp
      refine lv_aload_n cx.1 cx.2.1 dX12_program_181 rfl (lv_at hl 0 rfl) ?_
      obtain ⟨p3, e_p3, h⟩ := md_ob h
      refine hp_callVv (As := []) (rest := []) cx hw (km_X12_findNeeds l D cA E _ ad hj hE n p2.2  p3 e_p3) (cwV 0 cx.2.2.2.2.2.1 (md_giV mm_478 mm_479 mm_480 mm_5 mm_481) rfl rfl rfl hd_X12_findNeeds ⟨Nat.le_of_ble_eq_true rfl, Nat.le_of_ble_eq_true rfl⟩) md_at0 rfl rfl hl.1 rfl (Nat.le_of_ble_eq_true rfl) dX12_program_182 ⟨Nat.le_refl _, Nat.le_refl _⟩ (fun u H locs hp hw => ?_)
      obtain rfl := hp
      refine lv_aload_n cx.1 cx.2.1 dX12_program_185 rfl (lv_at hl 0 rfl) ?_
      obtain ⟨p4, e_p4, h⟩ := md_ob h
      refine hp_callVv (As := []) (rest := []) cx hw (km_X12_writeAll l D cA E _ ad hj hE n p3.2  p4 e_p4) (cwV 0 cx.2.2.2.2.2.1 (md_giV mm_482 mm_483 mm_484 mm_5 mm_485) rfl rfl rfl hd_X12_writeAll ⟨Nat.le_of_ble_eq_true rfl, Nat.le_of_ble_eq_true rfl⟩) md_at0 rfl rfl hl.1 rfl (Nat.le_of_ble_eq_true rfl) dX12_program_186 ⟨Nat.le_refl _, Nat.le_refl _⟩ (fun u H locs hp hw => ?_)
      obtain rfl := hp
      refine lv_aload_n cx.1 cx.2.1 dX12_program_189 rfl (lv_at hl 0 rfl) ?_
      refine md_gI (k := 35) cx hw hin12c rfl (by decide) (List.mem_cons_of_mem _ mm_143) dX12_program_190 ?_
      exact hp_iret cx hw (md_ret h) dX12_program_193
    · have h := md_ip c172 h
      refine lv_iconst (v := 0) cx.1 cx.2.1 dX12_program_175 (by decide) ?_
      exact hp_iret cx hw (md_ret h) dX12_program_176
  refine lv_aload_n cx.1 cx.2.1 dX12_program_0 rfl (lv_at hl 0 rfl) ?_
  refine lv_aload_n cx.1 cx.2.1 dX12_program_1 rfl (lv_at hl 0 rfl) ?_
  refine md_gI (k := 2) cx hw hin12c rfl (by decide) (List.mem_cons_of_mem _ mm_1) dX12_program_2 ?_
  obtain ⟨σ5, e_σ5, h⟩ := md_ob h
  refine md_pI (k := 4) cx hw hin12c rfl (by decide) rfl (List.mem_cons_of_mem _ mm_7) rfl e_σ5 dX12_program_5 (fun H locs hw => ?_)
  refine lv_iconst (v := 0) cx.1 cx.2.1 dX12_program_8 (by decide) ?_
  refine lv_istore_n (lv' := [(1, .int 0), (0, .ref (ad 137))]) cx.1 cx.2.1 dX12_program_9 rfl hl (by decide) rfl (fun ls hl => ?_)
  have L10 : ∀ (j : Nat) (σ : md_S) (l1 : Int32) (q : (md_S × Int32)) (H : Heap) (locs : List Loc) (ls : Array Slot), f_X12_program_L10 n j σ l1 = some q → hp_w D vwCl (hp_Tl cA) E (hp_A (md_pic cA ad σ0) sz) ss H locs (md_pic cA ad σ) → lv_has ls 2 [(0, .ref (ad 137)), (1, .int l1)] → (∀ (H : Heap) (locs : List Loc) (ls : Array Slot), hp_w D vwCl (hp_Tl cA) E (hp_A (md_pic cA ad σ0) sz) ss H locs (md_pic cA ad q.1) → lv_has ls 2 [(0, .ref (ad 137))] → W pp l ee ({ frames := 1807, cells := 0, slots := 0, locals := 43400 }) ss mm [.ref (ad 137)].toArray bb mt cd H locs 0 0 (MQ bb (hp_Qi D vwCl (hp_Tl cA) sz (md_pic cA ad σ0) (fun r u => r = p.1 ∧ u = md_pic cA ad p.2)) [.ref (ad 137)].toArray ss 0 0 (hp_A (md_pic cA ad σ0) sz)) (F0 mm 36 ls [])) → W pp l ee ({ frames := 1807, cells := 0, slots := 0, locals := 43400 }) ss mm [.ref (ad 137)].toArray bb mt cd H locs 0 0 (MQ bb (hp_Qi D vwCl (hp_Tl cA) sz (md_pic cA ad σ0) (fun r u => r = p.1 ∧ u = md_pic cA ad p.2)) [.ref (ad 137)].toArray ss 0 0 (hp_A (md_pic cA ad σ0) sz)) (F0 mm 10 ls []) := by
    intro j
    induction j with
    | zero => intro σ l1 q H locs ls h; exact nomatch h
    | succ j ih =>
      intro σ l1 q H locs ls h hw hl K
      refine lv_iload_n cx.1 cx.2.1 dX12_program_10 rfl (lv_at hl 1 rfl) ?_
      refine lv_aload_n cx.1 cx.2.1 dX12_program_11 rfl (lv_at hl 0 rfl) ?_
      refine md_gI (k := 4) cx hw hin12c rfl (by decide) (List.mem_cons_of_mem _ mm_7) dX12_program_12 ?_
      refine lv_icmp_ge (tgt := 36) cx.1 cx.2.1 dX12_program_15 (by decide) (fun c15 => ?_) (fun c15 => ?_)
      · have h := md_ip c15 h
        obtain rfl := Option.some.inj h
        exact K _ _ _ hw (lv_sub hl [0] rfl)
      · have h := md_in c15 h
        refine lv_aload_n cx.1 cx.2.1 dX12_program_18 rfl (lv_at hl 0 rfl) ?_
        refine md_gR (k := 3) cx hw hin12c (by decide) (by decide) (List.mem_cons_of_mem _ mm_8) dX12_program_19 ?_
        refine lv_iload_n cx.1 cx.2.1 dX12_program_22 rfl (lv_at hl 1 rfl) ?_
        refine lv_aload_n cx.1 cx.2.1 dX12_program_23 rfl (lv_at hl 0 rfl) ?_
        refine md_gR (k := 1) cx hw hin12c (by decide) (by decide) (List.mem_cons_of_mem _ mm_2) dX12_program_24 ?_
        refine lv_iload_n cx.1 cx.2.1 dX12_program_27 rfl (lv_at hl 1 rfl) ?_
        obtain ⟨v6, e_v6, h⟩ := md_ob h
        refine md_lI (k := 1) hj cx hw (by decide) rfl rfl rfl e_v6 dX12_program_28 ?_
        obtain ⟨σ7, e_σ7, h⟩ := md_ob h
        refine md_sI (k := 3) hj cx hw (by decide) rfl rfl rfl e_σ7 dX12_program_29 (fun H locs hw => ?_)
        refine lv_iinc (v := (l1 + 1)) (lv' := [(1, .int (l1 + 1)), (0, .ref (ad 137))]) cx.1 cx.2.1 dX12_program_30 hl (k := 1) rfl rfl (by decide) rfl (fun ls hl => ?_)
        refine lv_goto (tgt := 10) cx.1 cx.2.1 dX12_program_33 (by decide) ?_
        exact ih σ7 ((l1 + 1)) q _ _ _ h hw (lv_sub hl [1, 0] rfl) K
  obtain ⟨q8, e_q8, h⟩ := md_ob h
  refine L10 n σ5 0 q8 _ _ _ e_q8 hw (lv_sub hl [1, 0] rfl) (fun H locs ls hw hl => ?_)
  refine lv_aload_n cx.1 cx.2.1 dX12_program_36 rfl (lv_at hl 0 rfl) ?_
  refine lv_iconst (v := 0) cx.1 cx.2.1 dX12_program_37 (by decide) ?_
  obtain ⟨σ9, e_σ9, h⟩ := md_ob h
  refine md_pI (k := 2) cx hw hin12c rfl (by decide) rfl (List.mem_cons_of_mem _ mm_1) rfl e_σ9 dX12_program_38 (fun H locs hw => ?_)
  refine lv_aload_n cx.1 cx.2.1 dX12_program_41 rfl (lv_at hl 0 rfl) ?_
  refine lv_iconst (v := 0) cx.1 cx.2.1 dX12_program_42 (by decide) ?_
  obtain ⟨σ10, e_σ10, h⟩ := md_ob h
  refine md_pZ (k := 86) cx hw hin12c rfl (by decide) rfl (List.mem_cons_of_mem _ mm_468) rfl (by decide) e_σ10 dX12_program_43 (fun H locs hw => ?_)
  refine lv_aload_n cx.1 cx.2.1 dX12_program_46 rfl (lv_at hl 0 rfl) ?_
  refine lv_iconst (v := 0) cx.1 cx.2.1 dX12_program_47 (by decide) ?_
  obtain ⟨σ11, e_σ11, h⟩ := md_ob h
  refine md_pZ (k := 5) cx hw hin12c rfl (by decide) rfl (List.mem_cons_of_mem _ mm_469) rfl (by decide) e_σ11 dX12_program_48 (fun H locs hw => ?_)
  refine lv_aload_n cx.1 cx.2.1 dX12_program_51 rfl (lv_at hl 0 rfl) ?_
  refine lv_iconst (v := 0) cx.1 cx.2.1 dX12_program_52 (by decide) ?_
  obtain ⟨σ12, e_σ12, h⟩ := md_ob h
  refine md_pI (k := 6) cx hw hin12c rfl (by decide) rfl (List.mem_cons_of_mem _ mm_13) rfl e_σ12 dX12_program_53 (fun H locs hw => ?_)
  refine lv_aload_n cx.1 cx.2.1 dX12_program_56 rfl (lv_at hl 0 rfl) ?_
  refine lv_iconst (v := (-1)) cx.1 cx.2.1 dX12_program_57 (by decide) ?_
  obtain ⟨σ13, e_σ13, h⟩ := md_ob h
  refine md_pI (k := 7) cx hw hin12c rfl (by decide) rfl (List.mem_cons_of_mem _ mm_14) rfl e_σ13 dX12_program_58 (fun H locs hw => ?_)
  refine lv_aload_n cx.1 cx.2.1 dX12_program_61 rfl (lv_at hl 0 rfl) ?_
  refine lv_iconst (v := 0) cx.1 cx.2.1 dX12_program_62 (by decide) ?_
  obtain ⟨σ14, e_σ14, h⟩ := md_ob h
  refine md_pI (k := 20) cx hw hin12c rfl (by decide) rfl (List.mem_cons_of_mem _ mm_121) rfl e_σ14 dX12_program_63 (fun H locs hw => ?_)
  refine lv_aload_n cx.1 cx.2.1 dX12_program_66 rfl (lv_at hl 0 rfl) ?_
  refine lv_iconst (v := 0) cx.1 cx.2.1 dX12_program_67 (by decide) ?_
  obtain ⟨σ15, e_σ15, h⟩ := md_ob h
  refine md_pI (k := 22) cx hw hin12c rfl (by decide) rfl (List.mem_cons_of_mem _ mm_326) rfl e_σ15 dX12_program_68 (fun H locs hw => ?_)
  refine lv_aload_n cx.1 cx.2.1 dX12_program_71 rfl (lv_at hl 0 rfl) ?_
  refine lv_iconst (v := 0) cx.1 cx.2.1 dX12_program_72 (by decide) ?_
  obtain ⟨σ16, e_σ16, h⟩ := md_ob h
  refine md_pI (k := 25) cx hw hin12c rfl (by decide) rfl (List.mem_cons_of_mem _ mm_137) rfl e_σ16 dX12_program_73 (fun H locs hw => ?_)
  refine lv_aload_n cx.1 cx.2.1 dX12_program_76 rfl (lv_at hl 0 rfl) ?_
  refine lv_iconst (v := 0) cx.1 cx.2.1 dX12_program_77 (by decide) ?_
  obtain ⟨σ17, e_σ17, h⟩ := md_ob h
  refine md_pI (k := 35) cx hw hin12c rfl (by decide) rfl (List.mem_cons_of_mem _ mm_143) rfl e_σ17 dX12_program_78 (fun H locs hw => ?_)
  refine lv_aload_n cx.1 cx.2.1 dX12_program_81 rfl (lv_at hl 0 rfl) ?_
  refine lv_iconst (v := 0) cx.1 cx.2.1 dX12_program_82 (by decide) ?_
  obtain ⟨σ18, e_σ18, h⟩ := md_ob h
  refine md_pI (k := 48) cx hw hin12c rfl (by decide) rfl (List.mem_cons_of_mem _ mm_240) rfl e_σ18 dX12_program_83 (fun H locs hw => ?_)
  refine lv_aload_n cx.1 cx.2.1 dX12_program_86 rfl (lv_at hl 0 rfl) ?_
  refine lv_iconst (v := 0) cx.1 cx.2.1 dX12_program_87 (by decide) ?_
  obtain ⟨σ19, e_σ19, h⟩ := md_ob h
  refine md_pI (k := 50) cx hw hin12c rfl (by decide) rfl (List.mem_cons_of_mem _ mm_209) rfl e_σ19 dX12_program_88 (fun H locs hw => ?_)
  refine lv_aload_n cx.1 cx.2.1 dX12_program_91 rfl (lv_at hl 0 rfl) ?_
  refine lv_iconst (v := 0) cx.1 cx.2.1 dX12_program_92 (by decide) ?_
  obtain ⟨σ20, e_σ20, h⟩ := md_ob h
  refine md_pI (k := 56) cx hw hin12c rfl (by decide) rfl (List.mem_cons_of_mem _ mm_208) rfl e_σ20 dX12_program_93 (fun H locs hw => ?_)
  refine lv_aload_n cx.1 cx.2.1 dX12_program_96 rfl (lv_at hl 0 rfl) ?_
  refine lv_iconst (v := 0) cx.1 cx.2.1 dX12_program_97 (by decide) ?_
  obtain ⟨σ21, e_σ21, h⟩ := md_ob h
  refine md_pI (k := 58) cx hw hin12c rfl (by decide) rfl (List.mem_cons_of_mem _ mm_275) rfl e_σ21 dX12_program_98 (fun H locs hw => ?_)
  refine lv_aload_n cx.1 cx.2.1 dX12_program_101 rfl (lv_at hl 0 rfl) ?_
  refine lv_iconst (v := 0) cx.1 cx.2.1 dX12_program_102 (by decide) ?_
  obtain ⟨σ22, e_σ22, h⟩ := md_ob h
  refine md_pI (k := 60) cx hw hin12c rfl (by decide) rfl (List.mem_cons_of_mem _ mm_305) rfl e_σ22 dX12_program_103 (fun H locs hw => ?_)
  refine lv_aload_n cx.1 cx.2.1 dX12_program_106 rfl (lv_at hl 0 rfl) ?_
  refine lv_iconst (v := 0) cx.1 cx.2.1 dX12_program_107 (by decide) ?_
  obtain ⟨σ23, e_σ23, h⟩ := md_ob h
  refine md_pI (k := 62) cx hw hin12c rfl (by decide) rfl (List.mem_cons_of_mem _ mm_186) rfl e_σ23 dX12_program_108 (fun H locs hw => ?_)
  refine lv_aload_n cx.1 cx.2.1 dX12_program_111 rfl (lv_at hl 0 rfl) ?_
  refine lv_iconst (v := 0) cx.1 cx.2.1 dX12_program_112 (by decide) ?_
  obtain ⟨σ24, e_σ24, h⟩ := md_ob h
  refine md_pI (k := 63) cx hw hin12c rfl (by decide) rfl (List.mem_cons_of_mem _ mm_185) rfl e_σ24 dX12_program_113 (fun H locs hw => ?_)
  refine lv_aload_n cx.1 cx.2.1 dX12_program_116 rfl (lv_at hl 0 rfl) ?_
  refine lv_iconst (v := 0) cx.1 cx.2.1 dX12_program_117 (by decide) ?_
  obtain ⟨σ25, e_σ25, h⟩ := md_ob h
  refine md_pI (k := 65) cx hw hin12c rfl (by decide) rfl (List.mem_cons_of_mem _ mm_127) rfl e_σ25 dX12_program_118 (fun H locs hw => ?_)
  refine lv_aload_n cx.1 cx.2.1 dX12_program_121 rfl (lv_at hl 0 rfl) ?_
  refine lv_iconst (v := (-1)) cx.1 cx.2.1 dX12_program_122 (by decide) ?_
  obtain ⟨σ26, e_σ26, h⟩ := md_ob h
  refine md_pI (k := 64) cx hw hin12c rfl (by decide) rfl (List.mem_cons_of_mem _ mm_130) rfl e_σ26 dX12_program_123 (fun H locs hw => ?_)
  refine lv_aload_n cx.1 cx.2.1 dX12_program_126 rfl (lv_at hl 0 rfl) ?_
  refine lv_iconst (v := 4) cx.1 cx.2.1 dX12_program_127 (by decide) ?_
  obtain ⟨σ27, e_σ27, h⟩ := md_ob h
  refine md_pI (k := 16) cx hw hin12c rfl (by decide) rfl (List.mem_cons_of_mem _ mm_62) rfl e_σ27 dX12_program_128 (fun H locs hw => ?_)
  refine lv_aload_n cx.1 cx.2.1 dX12_program_131 rfl (lv_at hl 0 rfl) ?_
  refine lv_iconst (v := 0) cx.1 cx.2.1 dX12_program_132 (by decide) ?_
  obtain ⟨σ28, e_σ28, h⟩ := md_ob h
  refine md_pI (k := 10) cx hw hin12c rfl (by decide) rfl (List.mem_cons_of_mem _ mm_42) rfl e_σ28 dX12_program_133 (fun H locs hw => ?_)
  refine lv_aload_n cx.1 cx.2.1 dX12_program_136 rfl (lv_at hl 0 rfl) ?_
  obtain ⟨p29, e_p29, h⟩ := md_ob h
  refine hp_callVv (As := []) (rest := []) cx hw (km_X12_next l D cA E _ ad hj hE n σ28  p29 e_p29) (cwV 0 cx.2.2.2.2.2.1 (md_giV mm_92 mm_93 mm_94 mm_5 mm_95) rfl rfl rfl hd_X12_next ⟨Nat.le_of_ble_eq_true rfl, Nat.le_of_ble_eq_true rfl⟩) md_at0 rfl rfl hl.1 rfl (Nat.le_of_ble_eq_true rfl) dX12_program_137 ⟨Nat.le_refl _, Nat.le_refl _⟩ (fun u H locs hp hw => ?_)
  obtain rfl := hp
  refine lv_aload_n cx.1 cx.2.1 dX12_program_140 rfl (lv_at hl 0 rfl) ?_
  obtain ⟨p30, e_p30, h⟩ := md_ob h
  refine hp_callVv (As := []) (rest := []) cx hw (km_X12_readAll l D cA E _ ad hj hE n p29.2  p30 e_p30) (cwV 0 cx.2.2.2.2.2.1 (md_giV mm_470 mm_471 mm_472 mm_5 mm_473) rfl rfl rfl hd_X12_readAll ⟨Nat.le_of_ble_eq_true rfl, Nat.le_of_ble_eq_true rfl⟩) md_at0 rfl rfl hl.1 rfl (Nat.le_of_ble_eq_true rfl) dX12_program_141 ⟨Nat.le_refl _, Nat.le_refl _⟩ (fun u H locs hp hw => ?_)
  obtain rfl := hp
  refine lv_aload_n cx.1 cx.2.1 dX12_program_144 rfl (lv_at hl 0 rfl) ?_
  refine lv_aload_n cx.1 cx.2.1 dX12_program_145 rfl (lv_at hl 0 rfl) ?_
  obtain ⟨p31, e_p31, h⟩ := md_ob h
  refine hp_callVi (As := []) (rest := [.ref (ad 137)]) cx hw (km_X12_isFine l D cA E _ ad hj hE n p30.2  p31 e_p31) (cwV 0 cx.2.2.2.2.2.1 (md_giV mm_64 mm_65 mm_66 mm_5 mm_67) rfl rfl rfl hd_X12_isFine ⟨Nat.le_of_ble_eq_true rfl, Nat.le_of_ble_eq_true rfl⟩) md_at0 rfl rfl hl.1 rfl (Nat.le_of_ble_eq_true rfl) dX12_program_146 ⟨Nat.le_refl _, Nat.le_refl _⟩ (fun r u H locs hp hw => ?_)
  obtain ⟨rfl, rfl⟩ := hp
  obtain ⟨z32, e_z32, h⟩ := md_ob h
  obtain ⟨σ33, e_σ33, h⟩ := md_ob h
  refine md_pZ (k := 5) cx hw hin12c rfl (by decide) rfl (List.mem_cons_of_mem _ mm_469) rfl (md_zbs e_z32).2 e_σ33 dX12_program_149 (fun H locs hw => ?_)
  refine lv_aload_n cx.1 cx.2.1 dX12_program_152 rfl (lv_at hl 0 rfl) ?_
  refine lv_aload_n cx.1 cx.2.1 dX12_program_153 rfl (lv_at hl 0 rfl) ?_
  refine md_gI (k := 5) cx hw hin12c rfl (by decide) (List.mem_cons_of_mem _ mm_469) dX12_program_154 ?_
  refine lv_if_eq (tgt := 164) cx.1 cx.2.1 dX12_program_157 (by decide) (fun c157 => ?_) (fun c157 => ?_)
  · have h := md_ip c157 h
    refine lv_iconst (v := 1) cx.1 cx.2.1 dX12_program_164 (by decide) ?_
    exact J165 σ33 1 _ _ _ h hw (lv_sub hl [0] rfl)
  · have h := md_in c157 h
    refine lv_iconst (v := 0) cx.1 cx.2.1 dX12_program_160 (by decide) ?_
    refine lv_goto (tgt := 165) cx.1 cx.2.1 dX12_program_161 (by decide) ?_
    exact J165 σ33 0 _ _ _ h hw (lv_sub hl [0] rfl)
set_option maxHeartbeats 4000000 in
set_option maxRecDepth 100000 in
theorem km_X12_fault (l : Launch) (D : va_G) (cA : Nat → ClassId) (E : hp_N) (sz : Nat) (ad : Nat → Nat) (hj : md_inj ad) (hE : md_E E) (n : Nat) (σ0 : md_S) (a1 : Int32) (p : (Int32 × md_S)) (h : f_X12_fault n σ0 a1 = some p) : Met l yX12_fault (Cond.code yX12_fault cX12_fault 2 (some .int) :: v_MOD) ({ frames := 0, cells := 0, slots := 0, locals := 0 }) (hp_Pc D vwCl (hp_Tl cA) E sz (md_pic cA ad σ0) [.ref (ad 137), .int a1]) (hp_Qi D vwCl (hp_Tl cA) sz (md_pic cA ad σ0) (fun r u => r = p.1 ∧ u = md_pic cA ad p.2)) 0 0 (hp_A (md_pic cA ad σ0) sz) := by
  refine hp_ofW (cc := cX12_fault) (maxL := 2) (ret := (some .int)) (by decide) rfl (Nat.le_of_ble_eq_true rfl) ?_
  intro pp ee ss mm bb mt cd ls cx hsz hw hl
  have hl : lv_has ls 2 [(0, .ref (ad 137)), (1, .int a1)] := hl
  refine lv_aload_n cx.1 cx.2.1 dX12_fault_0 rfl (lv_at hl 0 rfl) ?_
  refine lv_iconst (v := 0) cx.1 cx.2.1 dX12_fault_1 (by decide) ?_
  obtain ⟨σ1, e_σ1, h⟩ := md_ob h
  refine md_pI (k := 0) cx hw hin12c rfl (by decide) rfl (List.mem_cons_of_mem _ mm_0) rfl e_σ1 dX12_fault_2 (fun H locs hw => ?_)
  refine lv_iload_n cx.1 cx.2.1 dX12_fault_5 rfl (lv_at hl 1 rfl) ?_
  refine lv_if_ne (tgt := 16) cx.1 cx.2.1 dX12_fault_6 (by decide) (fun c6 => ?_) (fun c6 => ?_)
  · have h := md_in c6 h
    refine lv_iload_n cx.1 cx.2.1 dX12_fault_16 rfl (lv_at hl 1 rfl) ?_
    refine lv_iconst (v := 1) cx.1 cx.2.1 dX12_fault_17 (by decide) ?_
    refine lv_icmp_ne (tgt := 28) cx.1 cx.2.1 dX12_fault_18 (by decide) (fun c18 => ?_) (fun c18 => ?_)
    · have h := md_in c18 h
      refine lv_iconst (v := (-1)) cx.1 cx.2.1 dX12_fault_28 (by decide) ?_
      exact hp_iret cx hw (md_ret h) dX12_fault_29
    · have h := md_ip c18 h
      refine lv_aload_n cx.1 cx.2.1 dX12_fault_21 rfl (lv_at hl 0 rfl) ?_
      refine md_gI (k := 7) cx hw hin12c rfl (by decide) (List.mem_cons_of_mem _ mm_14) dX12_fault_22 ?_
      refine lv_goto (tgt := 29) cx.1 cx.2.1 dX12_fault_25 (by decide) ?_
      exact hp_iret cx hw (md_ret h) dX12_fault_29
  · have h := md_ip c6 h
    refine lv_aload_n cx.1 cx.2.1 dX12_fault_9 rfl (lv_at hl 0 rfl) ?_
    refine md_gI (k := 6) cx hw hin12c rfl (by decide) (List.mem_cons_of_mem _ mm_13) dX12_fault_10 ?_
    refine lv_goto (tgt := 29) cx.1 cx.2.1 dX12_fault_13 (by decide) ?_
    exact hp_iret cx hw (md_ret h) dX12_fault_29
set_option maxHeartbeats 4000000 in
set_option maxRecDepth 100000 in
theorem km_X12_count (l : Launch) (D : va_G) (cA : Nat → ClassId) (E : hp_N) (sz : Nat) (ad : Nat → Nat) (hj : md_inj ad) (hE : md_E E) (n : Nat) (σ0 : md_S) (a1 : Int32) (p : (Int32 × md_S)) (h : f_X12_count n σ0 a1 = some p) : Met l yX12_count (Cond.code yX12_count cX12_count 4 (some .int) :: v_MOD) ({ frames := 1, cells := 0, slots := 0, locals := 25 }) (hp_Pc D vwCl (hp_Tl cA) E sz (md_pic cA ad σ0) [.ref (ad 137), .int a1]) (hp_Qi D vwCl (hp_Tl cA) sz (md_pic cA ad σ0) (fun r u => r = p.1 ∧ u = md_pic cA ad p.2)) 0 0 (hp_A (md_pic cA ad σ0) sz) := by
  refine hp_ofW (cc := cX12_count) (maxL := 4) (ret := (some .int)) (by decide) rfl (Nat.le_of_ble_eq_true rfl) ?_
  intro pp ee ss mm bb mt cd ls cx hsz hw hl
  have hl : lv_has ls 4 [(0, .ref (ad 137)), (1, .int a1)] := hl
  refine lv_aload_n cx.1 cx.2.1 dX12_count_0 rfl (lv_at hl 0 rfl) ?_
  refine lv_iconst (v := 0) cx.1 cx.2.1 dX12_count_1 (by decide) ?_
  obtain ⟨σ1, e_σ1, h⟩ := md_ob h
  refine md_pI (k := 0) cx hw hin12c rfl (by decide) rfl (List.mem_cons_of_mem _ mm_0) rfl e_σ1 dX12_count_2 (fun H locs hw => ?_)
  refine lv_iload_n cx.1 cx.2.1 dX12_count_5 rfl (lv_at hl 1 rfl) ?_
  refine lv_bipush (v := 9) cx.1 cx.2.1 dX12_count_6 (by decide) ?_
  refine lv_icmp_ne (tgt := 16) cx.1 cx.2.1 dX12_count_8 (by decide) (fun c8 => ?_) (fun c8 => ?_)
  · have h := md_in c8 h
    refine lv_iload_n cx.1 cx.2.1 dX12_count_16 rfl (lv_at hl 1 rfl) ?_
    refine lv_i2l (v := (a1.toInt64)) cx.1 cx.2.1 dX12_count_17 rfl ?_
    refine lv_lconst (v := 0) cx.1 cx.2.1 dX12_count_18 (by decide) ?_
    refine lv_ldc2 cx.1 cx.2.1 cx.2.2.2.2.1 (cx.2.2.2.2.2.1 _ (List.mem_cons_of_mem _ mm_486)) dX12_count_19 ?_
    obtain ⟨p2, e_p2, h⟩ := md_ob h
    refine hp_callSi (As := [.long (a1.toInt64), .long 0, .long 8]) (rest := []) cx hw (km_X12_in l D cA E _ ad hj hE n σ1 ((a1.toInt64)) (0 : Int64) (8 : Int64) p2 e_p2) (cwS 3 cx.2.2.2.2.2.1 (md_giS mm_3 mm_4 mm_5 mm_6) rfl rfl rfl hd_X12_in ⟨Nat.le_of_ble_eq_true rfl, Nat.le_of_ble_eq_true rfl⟩) rfl hl.1 rfl (Nat.le_of_ble_eq_true rfl) dX12_count_22 ⟨Nat.le_refl _, Nat.le_refl _⟩ (fun r u H locs hp hw => ?_)
    obtain ⟨rfl, rfl⟩ := hp
    refine lv_if_ne (tgt := 30) cx.1 cx.2.1 dX12_count_25 (by decide) (fun c25 => ?_) (fun c25 => ?_)
    · have h := md_in c25 h
      refine lv_aload_n cx.1 cx.2.1 dX12_count_30 rfl (lv_at hl 0 rfl) ?_
      refine md_gI (k := 5) cx hw hin12c rfl (by decide) (List.mem_cons_of_mem _ mm_469) dX12_count_31 ?_
      refine lv_if_ne (tgt := 39) cx.1 cx.2.1 dX12_count_34 (by decide) (fun c34 => ?_) (fun c34 => ?_)
      · have h := md_in c34 h
        refine lv_iconst (v := 0) cx.1 cx.2.1 dX12_count_39 (by decide) ?_
        refine lv_istore_n (lv' := [(2, .int 0), (0, .ref (ad 137)), (1, .int a1)]) cx.1 cx.2.1 dX12_count_40 rfl hl (by decide) rfl (fun ls hl => ?_)
        refine lv_iconst (v := 0) cx.1 cx.2.1 dX12_count_41 (by decide) ?_
        refine lv_istore_n (lv' := [(3, .int 0), (2, .int 0), (0, .ref (ad 137)), (1, .int a1)]) cx.1 cx.2.1 dX12_count_42 rfl hl (by decide) rfl (fun ls hl => ?_)
        have L43 : ∀ (j : Nat) (σ : md_S) (l1 : Int32) (l2 : Int32) (l3 : Int32) (q : (md_S × Int32 × Int32)) (H : Heap) (locs : List Loc) (ls : Array Slot), f_X12_count_L43 n l1 j σ l2 l3 = some q → hp_w D vwCl (hp_Tl cA) E (hp_A (md_pic cA ad σ0) sz) ss H locs (md_pic cA ad σ) → lv_has ls 4 [(0, .ref (ad 137)), (1, .int l1), (2, .int l2), (3, .int l3)] → (∀ (H : Heap) (locs : List Loc) (ls : Array Slot), hp_w D vwCl (hp_Tl cA) E (hp_A (md_pic cA ad σ0) sz) ss H locs (md_pic cA ad q.1) → lv_has ls 4 [(0, .ref (ad 137)), (1, .int l1), (2, .int q.2.1)] → W pp l ee ({ frames := 1, cells := 0, slots := 0, locals := 25 }) ss mm [.ref (ad 137), .int a1].toArray bb mt cd H locs 0 0 (MQ bb (hp_Qi D vwCl (hp_Tl cA) sz (md_pic cA ad σ0) (fun r u => r = p.1 ∧ u = md_pic cA ad p.2)) [.ref (ad 137), .int a1].toArray ss 0 0 (hp_A (md_pic cA ad σ0) sz)) (F0 mm 74 ls [])) → W pp l ee ({ frames := 1, cells := 0, slots := 0, locals := 25 }) ss mm [.ref (ad 137), .int a1].toArray bb mt cd H locs 0 0 (MQ bb (hp_Qi D vwCl (hp_Tl cA) sz (md_pic cA ad σ0) (fun r u => r = p.1 ∧ u = md_pic cA ad p.2)) [.ref (ad 137), .int a1].toArray ss 0 0 (hp_A (md_pic cA ad σ0) sz)) (F0 mm 43 ls []) := by
          intro j
          induction j with
          | zero => intro σ l1 l2 l3 q H locs ls h; exact nomatch h
          | succ j ih =>
            intro σ l1 l2 l3 q H locs ls h hw hl K
            have J66 : ∀ (σ : md_S) (l3 : Int32) (t0 : Int32) (t1 : Int32) (H : Heap) (locs : List Loc) (ls : Array Slot), f_X12_count_J66 n l1 (f_X12_count_L43 n l1 j) σ l3 t0 t1 = some q → hp_w D vwCl (hp_Tl cA) E (hp_A (md_pic cA ad σ0) sz) ss H locs (md_pic cA ad σ) → lv_has ls 4 [(0, .ref (ad 137)), (1, .int l1), (3, .int l3)] → W pp l ee ({ frames := 1, cells := 0, slots := 0, locals := 25 }) ss mm [.ref (ad 137), .int a1].toArray bb mt cd H locs 0 0 (MQ bb (hp_Qi D vwCl (hp_Tl cA) sz (md_pic cA ad σ0) (fun r u => r = p.1 ∧ u = md_pic cA ad p.2)) [.ref (ad 137), .int a1].toArray ss 0 0 (hp_A (md_pic cA ad σ0) sz)) (F0 mm 66 ls [.int t0, .int t1]) := by
              intro σ l3 t0 t1 H locs ls h hw hl
              refine lv_iadd cx.1 cx.2.1 dX12_count_66 ?_
              refine lv_istore_n (lv' := [(2, .int (t1 + t0)), (0, .ref (ad 137)), (1, .int l1), (3, .int l3)]) cx.1 cx.2.1 dX12_count_67 rfl hl (by decide) rfl (fun ls hl => ?_)
              refine lv_iinc (v := (l3 + 1)) (lv' := [(3, .int (l3 + 1)), (2, .int (t1 + t0)), (0, .ref (ad 137)), (1, .int l1)]) cx.1 cx.2.1 dX12_count_68 hl (k := 3) rfl rfl (by decide) rfl (fun ls hl => ?_)
              refine lv_goto (tgt := 43) cx.1 cx.2.1 dX12_count_71 (by decide) ?_
              exact ih σ l1 ((t1 + t0)) ((l3 + 1)) q _ _ _ h hw (lv_sub hl [2, 3, 1, 0] rfl) K
            refine lv_iload_n cx.1 cx.2.1 dX12_count_43 rfl (lv_at hl 3 rfl) ?_
            refine lv_aload_n cx.1 cx.2.1 dX12_count_44 rfl (lv_at hl 0 rfl) ?_
            refine md_gI (k := 35) cx hw hin12c rfl (by decide) (List.mem_cons_of_mem _ mm_143) dX12_count_45 ?_
            refine lv_icmp_ge (tgt := 74) cx.1 cx.2.1 dX12_count_48 (by decide) (fun c48 => ?_) (fun c48 => ?_)
            · have h := md_ip c48 h
              obtain rfl := Option.some.inj h
              exact K _ _ _ hw (lv_sub hl [0, 1, 2] rfl)
            · have h := md_in c48 h
              refine lv_iload_n cx.1 cx.2.1 dX12_count_51 rfl (lv_at hl 2 rfl) ?_
              refine lv_aload_n cx.1 cx.2.1 dX12_count_52 rfl (lv_at hl 0 rfl) ?_
              refine md_gR (k := 47) cx hw hin12c (by decide) (by decide) (List.mem_cons_of_mem _ mm_144) dX12_count_53 ?_
              refine lv_iload_n cx.1 cx.2.1 dX12_count_56 rfl (lv_at hl 3 rfl) ?_
              obtain ⟨v3, e_v3, h⟩ := md_ob h
              refine md_lZ (k := 47) hj cx hw (by decide) rfl rfl rfl e_v3 dX12_count_57 ?_
              refine lv_if_eq (tgt := 65) cx.1 cx.2.1 dX12_count_58 (by decide) (fun c58 => ?_) (fun c58 => ?_)
              · have h := md_ip c58 h
                refine lv_iconst (v := 0) cx.1 cx.2.1 dX12_count_65 (by decide) ?_
                exact J66 σ l3 0 l2 _ _ _ h hw (lv_sub hl [0, 1, 3] rfl)
              · have h := md_in c58 h
                refine lv_iconst (v := 1) cx.1 cx.2.1 dX12_count_61 (by decide) ?_
                refine lv_goto (tgt := 66) cx.1 cx.2.1 dX12_count_62 (by decide) ?_
                exact J66 σ l3 1 l2 _ _ _ h hw (lv_sub hl [0, 1, 3] rfl)
        obtain ⟨q4, e_q4, h⟩ := md_ob h
        refine L43 n p2.2 a1 0 0 q4 _ _ _ e_q4 hw (lv_sub hl [2, 3, 1, 0] rfl) (fun H locs ls hw hl => ?_)
        refine lv_aload_n cx.1 cx.2.1 dX12_count_74 rfl (lv_at hl 0 rfl) ?_
        refine md_gR (k := 80) cx hw hin12c (by decide) (by decide) (List.mem_cons_of_mem _ mm_487) dX12_count_75 ?_
        refine lv_astore_n (lv' := [(3, .ref (ad 80)), (0, .ref (ad 137)), (1, .int a1), (2, .int q4.2.1)]) cx.1 cx.2.1 dX12_count_78 rfl hl (by decide) rfl (fun ls hl => ?_)
        refine lv_aload_n cx.1 cx.2.1 dX12_count_79 rfl (lv_at hl 0 rfl) ?_
        refine lv_iconst (v := 0) cx.1 cx.2.1 dX12_count_80 (by decide) ?_
        refine lv_aload_n cx.1 cx.2.1 dX12_count_81 rfl (lv_at hl 1 rfl) ?_
        refine md_gI (k := 35) cx hw hin12c rfl (by decide) (List.mem_cons_of_mem _ mm_143) dX12_count_82 ?_
        obtain ⟨σ5, e_σ5, h⟩ := md_ob h
        refine md_sI (k := 80) hj cx hw (by decide) rfl rfl rfl e_σ5 dX12_count_85 (fun H locs hw => ?_)
        refine lv_aload_n cx.1 cx.2.1 dX12_count_86 rfl (lv_at hl 0 rfl) ?_
        refine lv_iconst (v := 1) cx.1 cx.2.1 dX12_count_87 (by decide) ?_
        refine lv_aload_n cx.1 cx.2.1 dX12_count_88 rfl (lv_at hl 1 rfl) ?_
        refine md_gI (k := 25) cx hw hin12c rfl (by decide) (List.mem_cons_of_mem _ mm_137) dX12_count_89 ?_
        obtain ⟨σ6, e_σ6, h⟩ := md_ob h
        refine md_sI (k := 80) hj cx hw (by decide) rfl rfl rfl e_σ6 dX12_count_92 (fun H locs hw => ?_)
        refine lv_aload_n cx.1 cx.2.1 dX12_count_93 rfl (lv_at hl 0 rfl) ?_
        refine lv_iconst (v := 2) cx.1 cx.2.1 dX12_count_94 (by decide) ?_
        refine lv_aload_n cx.1 cx.2.1 dX12_count_95 rfl (lv_at hl 1 rfl) ?_
        refine md_gI (k := 20) cx hw hin12c rfl (by decide) (List.mem_cons_of_mem _ mm_121) dX12_count_96 ?_
        obtain ⟨σ7, e_σ7, h⟩ := md_ob h
        refine md_sI (k := 80) hj cx hw (by decide) rfl rfl rfl e_σ7 dX12_count_99 (fun H locs hw => ?_)
        refine lv_aload_n cx.1 cx.2.1 dX12_count_100 rfl (lv_at hl 0 rfl) ?_
        refine lv_iconst (v := 3) cx.1 cx.2.1 dX12_count_101 (by decide) ?_
        refine lv_aload_n cx.1 cx.2.1 dX12_count_102 rfl (lv_at hl 1 rfl) ?_
        refine md_gI (k := 34) cx hw hin12c rfl (by decide) (List.mem_cons_of_mem _ mm_136) dX12_count_103 ?_
        obtain ⟨σ8, e_σ8, h⟩ := md_ob h
        refine md_sI (k := 80) hj cx hw (by decide) rfl rfl rfl e_σ8 dX12_count_106 (fun H locs hw => ?_)
        refine lv_aload_n cx.1 cx.2.1 dX12_count_107 rfl (lv_at hl 0 rfl) ?_
        refine lv_iconst (v := 4) cx.1 cx.2.1 dX12_count_108 (by decide) ?_
        refine lv_aload_n cx.1 cx.2.1 dX12_count_109 rfl (lv_at hl 1 rfl) ?_
        refine md_gI (k := 22) cx hw hin12c rfl (by decide) (List.mem_cons_of_mem _ mm_326) dX12_count_110 ?_
        obtain ⟨σ9, e_σ9, h⟩ := md_ob h
        refine md_sI (k := 80) hj cx hw (by decide) rfl rfl rfl e_σ9 dX12_count_113 (fun H locs hw => ?_)
        refine lv_aload_n cx.1 cx.2.1 dX12_count_114 rfl (lv_at hl 0 rfl) ?_
        refine lv_iconst (v := 5) cx.1 cx.2.1 dX12_count_115 (by decide) ?_
        refine lv_aload_n cx.1 cx.2.1 dX12_count_116 rfl (lv_at hl 1 rfl) ?_
        refine md_gI (k := 48) cx hw hin12c rfl (by decide) (List.mem_cons_of_mem _ mm_240) dX12_count_117 ?_
        obtain ⟨σ10, e_σ10, h⟩ := md_ob h
        refine md_sI (k := 80) hj cx hw (by decide) rfl rfl rfl e_σ10 dX12_count_120 (fun H locs hw => ?_)
        refine lv_aload_n cx.1 cx.2.1 dX12_count_121 rfl (lv_at hl 0 rfl) ?_
        refine lv_bipush (v := 6) cx.1 cx.2.1 dX12_count_122 (by decide) ?_
        refine lv_iload_n cx.1 cx.2.1 dX12_count_124 rfl (lv_at hl 3 rfl) ?_
        obtain ⟨σ11, e_σ11, h⟩ := md_ob h
        refine md_sI (k := 80) hj cx hw (by decide) rfl rfl rfl e_σ11 dX12_count_125 (fun H locs hw => ?_)
        refine lv_aload_n cx.1 cx.2.1 dX12_count_126 rfl (lv_at hl 0 rfl) ?_
        refine lv_bipush (v := 7) cx.1 cx.2.1 dX12_count_127 (by decide) ?_
        refine lv_aload_n cx.1 cx.2.1 dX12_count_129 rfl (lv_at hl 1 rfl) ?_
        refine md_gI (k := 58) cx hw hin12c rfl (by decide) (List.mem_cons_of_mem _ mm_275) dX12_count_130 ?_
        obtain ⟨σ12, e_σ12, h⟩ := md_ob h
        refine md_sI (k := 80) hj cx hw (by decide) rfl rfl rfl e_σ12 dX12_count_133 (fun H locs hw => ?_)
        refine lv_aload_n cx.1 cx.2.1 dX12_count_134 rfl (lv_at hl 0 rfl) ?_
        refine lv_bipush (v := 8) cx.1 cx.2.1 dX12_count_135 (by decide) ?_
        refine lv_aload_n cx.1 cx.2.1 dX12_count_137 rfl (lv_at hl 1 rfl) ?_
        refine md_gI (k := 60) cx hw hin12c rfl (by decide) (List.mem_cons_of_mem _ mm_305) dX12_count_138 ?_
        obtain ⟨σ13, e_σ13, h⟩ := md_ob h
        refine md_sI (k := 80) hj cx hw (by decide) rfl rfl rfl e_σ13 dX12_count_141 (fun H locs hw => ?_)
        refine lv_aload_n cx.1 cx.2.1 dX12_count_142 rfl (lv_at hl 0 rfl) ?_
        refine lv_iload_n cx.1 cx.2.1 dX12_count_143 rfl (lv_at hl 2 rfl) ?_
        obtain ⟨v14, e_v14, h⟩ := md_ob h
        refine md_lI (k := 80) hj cx hw (by decide) rfl rfl rfl e_v14 dX12_count_144 ?_
        exact hp_iret cx hw (md_ret h) dX12_count_145
      · have h := md_ip c34 h
        refine lv_iconst (v := 0) cx.1 cx.2.1 dX12_count_37 (by decide) ?_
        exact hp_iret cx hw (md_ret h) dX12_count_38
    · have h := md_ip c25 h
      refine lv_iconst (v := (-1)) cx.1 cx.2.1 dX12_count_28 (by decide) ?_
      exact hp_iret cx hw (md_ret h) dX12_count_29
  · have h := md_ip c8 h
    refine lv_aload_n cx.1 cx.2.1 dX12_count_11 rfl (lv_at hl 0 rfl) ?_
    refine md_gI (k := 2) cx hw hin12c rfl (by decide) (List.mem_cons_of_mem _ mm_1) dX12_count_12 ?_
    exact hp_iret cx hw (md_ret h) dX12_count_15
set_option maxHeartbeats 4000000 in
set_option maxRecDepth 100000 in
theorem km_X12_isUnit (l : Launch) (D : va_G) (cA : Nat → ClassId) (E : hp_N) (sz : Nat) (ad : Nat → Nat) (hj : md_inj ad) (hE : md_E E) (n : Nat) (σ0 : md_S) (a1 : Int32) (p : (Int32 × md_S)) (h : f_X12_isUnit n σ0 a1 = some p) : Met l yX12_isUnit (Cond.code yX12_isUnit cX12_isUnit 2 (some .boolean) :: v_MOD) ({ frames := 1, cells := 0, slots := 0, locals := 25 }) (hp_Pc D vwCl (hp_Tl cA) E sz (md_pic cA ad σ0) [.ref (ad 137), .int a1]) (hp_Qi D vwCl (hp_Tl cA) sz (md_pic cA ad σ0) (fun r u => r = p.1 ∧ u = md_pic cA ad p.2)) 0 0 (hp_A (md_pic cA ad σ0) sz) := by
  refine hp_ofW (cc := cX12_isUnit) (maxL := 2) (ret := (some .boolean)) (by decide) rfl (Nat.le_of_ble_eq_true rfl) ?_
  intro pp ee ss mm bb mt cd ls cx hsz hw hl
  have hl : lv_has ls 2 [(0, .ref (ad 137)), (1, .int a1)] := hl
  refine lv_aload_n cx.1 cx.2.1 dX12_isUnit_0 rfl (lv_at hl 0 rfl) ?_
  refine md_gI (k := 5) cx hw hin12c rfl (by decide) (List.mem_cons_of_mem _ mm_469) dX12_isUnit_1 ?_
  refine lv_if_eq (tgt := 27) cx.1 cx.2.1 dX12_isUnit_4 (by decide) (fun c4 => ?_) (fun c4 => ?_)
  · have h := md_ip c4 h
    refine lv_iconst (v := 0) cx.1 cx.2.1 dX12_isUnit_27 (by decide) ?_
    exact hp_zret cx hw (md_ret h) (by decide) dX12_isUnit_28
  · have h := md_in c4 h
    refine lv_iload_n cx.1 cx.2.1 dX12_isUnit_7 rfl (lv_at hl 1 rfl) ?_
    refine lv_i2l (v := (a1.toInt64)) cx.1 cx.2.1 dX12_isUnit_8 rfl ?_
    refine lv_lconst (v := 0) cx.1 cx.2.1 dX12_isUnit_9 (by decide) ?_
    refine lv_aload_n cx.1 cx.2.1 dX12_isUnit_10 rfl (lv_at hl 0 rfl) ?_
    refine md_gI (k := 35) cx hw hin12c rfl (by decide) (List.mem_cons_of_mem _ mm_143) dX12_isUnit_11 ?_
    refine lv_iconst (v := 1) cx.1 cx.2.1 dX12_isUnit_14 (by decide) ?_
    refine lv_isub cx.1 cx.2.1 dX12_isUnit_15 ?_
    refine lv_i2l (v := (((mI σ0 35) - 1).toInt64)) cx.1 cx.2.1 dX12_isUnit_16 rfl ?_
    obtain ⟨p1, e_p1, h⟩ := md_ob h
    refine hp_callSi (As := [.long (a1.toInt64), .long 0, .long (((mI σ0 35) - 1).toInt64)]) (rest := []) cx hw (km_X12_in l D cA E _ ad hj hE n σ0 ((a1.toInt64)) (0 : Int64) ((((mI σ0 35) - 1).toInt64)) p1 e_p1) (cwS 3 cx.2.2.2.2.2.1 (md_giS mm_3 mm_4 mm_5 mm_6) rfl rfl rfl hd_X12_in ⟨Nat.le_of_ble_eq_true rfl, Nat.le_of_ble_eq_true rfl⟩) rfl hl.1 rfl (Nat.le_of_ble_eq_true rfl) dX12_isUnit_17 ⟨Nat.le_refl _, Nat.le_refl _⟩ (fun r u H locs hp hw => ?_)
    obtain ⟨rfl, rfl⟩ := hp
    refine lv_if_eq (tgt := 27) cx.1 cx.2.1 dX12_isUnit_20 (by decide) (fun c20 => ?_) (fun c20 => ?_)
    · have h := md_ip c20 h
      refine lv_iconst (v := 0) cx.1 cx.2.1 dX12_isUnit_27 (by decide) ?_
      exact hp_zret cx hw (md_ret h) (by decide) dX12_isUnit_28
    · have h := md_in c20 h
      refine lv_iconst (v := 1) cx.1 cx.2.1 dX12_isUnit_23 (by decide) ?_
      refine lv_goto (tgt := 28) cx.1 cx.2.1 dX12_isUnit_24 (by decide) ?_
      exact hp_zret cx hw (md_ret h) (by decide) dX12_isUnit_28
set_option maxHeartbeats 4000000 in
set_option maxRecDepth 100000 in
theorem km_X12_unit (l : Launch) (D : va_G) (cA : Nat → ClassId) (E : hp_N) (sz : Nat) (ad : Nat → Nat) (hj : md_inj ad) (hE : md_E E) (n : Nat) (σ0 : md_S) (a1 : Int32) (a2 : Int32) (p : (Int32 × md_S)) (h : f_X12_unit n σ0 a1 a2 = some p) : Met l yX12_unit (Cond.code yX12_unit cX12_unit 3 (some .int) :: v_MOD) ({ frames := 2, cells := 0, slots := 0, locals := 46 }) (hp_Pc D vwCl (hp_Tl cA) E sz (md_pic cA ad σ0) [.ref (ad 137), .int a1, .int a2]) (hp_Qi D vwCl (hp_Tl cA) sz (md_pic cA ad σ0) (fun r u => r = p.1 ∧ u = md_pic cA ad p.2)) 0 0 (hp_A (md_pic cA ad σ0) sz) := by
  refine hp_ofW (cc := cX12_unit) (maxL := 3) (ret := (some .int)) (by decide) rfl (Nat.le_of_ble_eq_true rfl) ?_
  intro pp ee ss mm bb mt cd ls cx hsz hw hl
  have hl : lv_has ls 3 [(0, .ref (ad 137)), (1, .int a1), (2, .int a2)] := hl
  refine lv_aload_n cx.1 cx.2.1 dX12_unit_0 rfl (lv_at hl 0 rfl) ?_
  refine lv_iconst (v := 0) cx.1 cx.2.1 dX12_unit_1 (by decide) ?_
  obtain ⟨σ1, e_σ1, h⟩ := md_ob h
  refine md_pI (k := 0) cx hw hin12c rfl (by decide) rfl (List.mem_cons_of_mem _ mm_0) rfl e_σ1 dX12_unit_2 (fun H locs hw => ?_)
  refine lv_aload_n cx.1 cx.2.1 dX12_unit_5 rfl (lv_at hl 0 rfl) ?_
  refine lv_iload_n cx.1 cx.2.1 dX12_unit_6 rfl (lv_at hl 1 rfl) ?_
  obtain ⟨p2, e_p2, h⟩ := md_ob h
  refine hp_callVi (As := [.int a1]) (rest := []) cx hw (km_X12_isUnit l D cA E _ ad hj hE n σ1 a1 p2 e_p2) (cwV 1 cx.2.2.2.2.2.1 (md_giV mm_488 mm_489 mm_490 mm_5 mm_491) rfl rfl rfl hd_X12_isUnit ⟨Nat.le_of_ble_eq_true rfl, Nat.le_of_ble_eq_true rfl⟩) md_at0 rfl rfl hl.1 rfl (Nat.le_of_ble_eq_true rfl) dX12_unit_7 ⟨Nat.le_refl _, Nat.le_refl _⟩ (fun r u H locs hp hw => ?_)
  obtain ⟨rfl, rfl⟩ := hp
  refine lv_if_ne (tgt := 15) cx.1 cx.2.1 dX12_unit_10 (by decide) (fun c10 => ?_) (fun c10 => ?_)
  · have h := md_in c10 h
    refine lv_iload_n cx.1 cx.2.1 dX12_unit_15 rfl (lv_at hl 2 rfl) ?_
    by_cases c16_0 : a2 = 0
    · refine lv_tableIn (off := 52) (tgt := 68) cx.1 cx.2.1 dX12_unit_16 (by rw [c16_0]; decide) (by rw [c16_0]; decide) (by rw [c16_0]; decide) (by decide) ?_
      have h := md_ip c16_0 h
      refine lv_aload_n cx.1 cx.2.1 dX12_unit_68 rfl (lv_at hl 0 rfl) ?_
      refine md_gR (k := 36) cx hw hin12c (by decide) (by decide) (List.mem_cons_of_mem _ mm_139) dX12_unit_69 ?_
      refine lv_iload_n cx.1 cx.2.1 dX12_unit_72 rfl (lv_at hl 1 rfl) ?_
      obtain ⟨v3, e_v3, h⟩ := md_ob h
      refine md_lI (k := 36) hj cx hw (by decide) rfl rfl rfl e_v3 dX12_unit_73 ?_
      exact hp_iret cx hw (md_ret h) dX12_unit_74
    have h := md_in c16_0 h
    by_cases c16_1 : a2 = 1
    · refine lv_tableIn (off := 59) (tgt := 75) cx.1 cx.2.1 dX12_unit_16 (by rw [c16_1]; decide) (by rw [c16_1]; decide) (by rw [c16_1]; decide) (by decide) ?_
      have h := md_ip c16_1 h
      refine lv_aload_n cx.1 cx.2.1 dX12_unit_75 rfl (lv_at hl 0 rfl) ?_
      refine md_gR (k := 37) cx hw hin12c (by decide) (by decide) (List.mem_cons_of_mem _ mm_243) dX12_unit_76 ?_
      refine lv_iload_n cx.1 cx.2.1 dX12_unit_79 rfl (lv_at hl 1 rfl) ?_
      obtain ⟨v4, e_v4, h⟩ := md_ob h
      refine md_lI (k := 37) hj cx hw (by decide) rfl rfl rfl e_v4 dX12_unit_80 ?_
      exact hp_iret cx hw (md_ret h) dX12_unit_81
    have h := md_in c16_1 h
    by_cases c16_2 : a2 = 2
    · refine lv_tableIn (off := 66) (tgt := 82) cx.1 cx.2.1 dX12_unit_16 (by rw [c16_2]; decide) (by rw [c16_2]; decide) (by rw [c16_2]; decide) (by decide) ?_
      have h := md_ip c16_2 h
      refine lv_aload_n cx.1 cx.2.1 dX12_unit_82 rfl (lv_at hl 0 rfl) ?_
      refine md_gR (k := 38) cx hw hin12c (by decide) (by decide) (List.mem_cons_of_mem _ mm_244) dX12_unit_83 ?_
      refine lv_iload_n cx.1 cx.2.1 dX12_unit_86 rfl (lv_at hl 1 rfl) ?_
      obtain ⟨v5, e_v5, h⟩ := md_ob h
      refine md_lI (k := 38) hj cx hw (by decide) rfl rfl rfl e_v5 dX12_unit_87 ?_
      exact hp_iret cx hw (md_ret h) dX12_unit_88
    have h := md_in c16_2 h
    by_cases c16_3 : a2 = 3
    · refine lv_tableIn (off := 73) (tgt := 89) cx.1 cx.2.1 dX12_unit_16 (by rw [c16_3]; decide) (by rw [c16_3]; decide) (by rw [c16_3]; decide) (by decide) ?_
      have h := md_ip c16_3 h
      refine lv_aload_n cx.1 cx.2.1 dX12_unit_89 rfl (lv_at hl 0 rfl) ?_
      refine md_gR (k := 39) cx hw hin12c (by decide) (by decide) (List.mem_cons_of_mem _ mm_140) dX12_unit_90 ?_
      refine lv_iload_n cx.1 cx.2.1 dX12_unit_93 rfl (lv_at hl 1 rfl) ?_
      obtain ⟨v6, e_v6, h⟩ := md_ob h
      refine md_lI (k := 39) hj cx hw (by decide) rfl rfl rfl e_v6 dX12_unit_94 ?_
      exact hp_iret cx hw (md_ret h) dX12_unit_95
    have h := md_in c16_3 h
    by_cases c16_4 : a2 = 4
    · refine lv_tableIn (off := 80) (tgt := 96) cx.1 cx.2.1 dX12_unit_16 (by rw [c16_4]; decide) (by rw [c16_4]; decide) (by rw [c16_4]; decide) (by decide) ?_
      have h := md_ip c16_4 h
      refine lv_aload_n cx.1 cx.2.1 dX12_unit_96 rfl (lv_at hl 0 rfl) ?_
      refine md_gR (k := 44) cx hw hin12c (by decide) (by decide) (List.mem_cons_of_mem _ mm_246) dX12_unit_97 ?_
      refine lv_iload_n cx.1 cx.2.1 dX12_unit_100 rfl (lv_at hl 1 rfl) ?_
      obtain ⟨v7, e_v7, h⟩ := md_ob h
      refine md_lI (k := 44) hj cx hw (by decide) rfl rfl rfl e_v7 dX12_unit_101 ?_
      exact hp_iret cx hw (md_ret h) dX12_unit_102
    have h := md_in c16_4 h
    by_cases c16_5 : a2 = 5
    · refine lv_tableIn (off := 87) (tgt := 103) cx.1 cx.2.1 dX12_unit_16 (by rw [c16_5]; decide) (by rw [c16_5]; decide) (by rw [c16_5]; decide) (by decide) ?_
      have h := md_ip c16_5 h
      refine lv_aload_n cx.1 cx.2.1 dX12_unit_103 rfl (lv_at hl 0 rfl) ?_
      refine lv_iload_n cx.1 cx.2.1 dX12_unit_104 rfl (lv_at hl 1 rfl) ?_
      obtain ⟨p8, e_p8, h⟩ := md_ob h
      refine hp_callVi (As := [.int a1]) (rest := []) cx hw (km_X12_localsOf l D cA E _ ad hj hE n p2.2 a1 p8 e_p8) (cwV 1 cx.2.2.2.2.2.1 (md_giV mm_411 mm_412 mm_413 mm_5 mm_414) rfl rfl rfl hd_X12_localsOf ⟨Nat.le_of_ble_eq_true rfl, Nat.le_of_ble_eq_true rfl⟩) md_at0 rfl rfl hl.1 rfl (Nat.le_of_ble_eq_true rfl) dX12_unit_105 ⟨Nat.le_refl _, Nat.le_refl _⟩ (fun r u H locs hp hw => ?_)
      obtain ⟨rfl, rfl⟩ := hp
      exact hp_iret cx hw (md_ret h) dX12_unit_108
    have h := md_in c16_5 h
    by_cases c16_6 : a2 = 6
    · refine lv_tableIn (off := 93) (tgt := 109) cx.1 cx.2.1 dX12_unit_16 (by rw [c16_6]; decide) (by rw [c16_6]; decide) (by rw [c16_6]; decide) (by decide) ?_
      have h := md_ip c16_6 h
      refine lv_aload_n cx.1 cx.2.1 dX12_unit_109 rfl (lv_at hl 0 rfl) ?_
      refine md_gR (k := 47) cx hw hin12c (by decide) (by decide) (List.mem_cons_of_mem _ mm_144) dX12_unit_110 ?_
      refine lv_iload_n cx.1 cx.2.1 dX12_unit_113 rfl (lv_at hl 1 rfl) ?_
      obtain ⟨v9, e_v9, h⟩ := md_ob h
      refine md_lZ (k := 47) hj cx hw (by decide) rfl rfl rfl e_v9 dX12_unit_114 ?_
      refine lv_if_eq (tgt := 122) cx.1 cx.2.1 dX12_unit_115 (by decide) (fun c115 => ?_) (fun c115 => ?_)
      · have h := md_ip c115 h
        refine lv_iconst (v := 0) cx.1 cx.2.1 dX12_unit_122 (by decide) ?_
        exact hp_iret cx hw (md_ret h) dX12_unit_123
      · have h := md_in c115 h
        refine lv_iconst (v := 1) cx.1 cx.2.1 dX12_unit_118 (by decide) ?_
        refine lv_goto (tgt := 123) cx.1 cx.2.1 dX12_unit_119 (by decide) ?_
        exact hp_iret cx hw (md_ret h) dX12_unit_123
    have h := md_in c16_6 h
    by_cases c16_7 : a2 = 7
    · refine lv_tableIn (off := 108) (tgt := 124) cx.1 cx.2.1 dX12_unit_16 (by rw [c16_7]; decide) (by rw [c16_7]; decide) (by rw [c16_7]; decide) (by decide) ?_
      have h := md_ip c16_7 h
      refine lv_aload_n cx.1 cx.2.1 dX12_unit_124 rfl (lv_at hl 0 rfl) ?_
      refine md_gR (k := 77) cx hw hin12c (by decide) (by decide) (List.mem_cons_of_mem _ mm_467) dX12_unit_125 ?_
      refine lv_iconst (v := 2) cx.1 cx.2.1 dX12_unit_128 (by decide) ?_
      refine lv_iload_n cx.1 cx.2.1 dX12_unit_129 rfl (lv_at hl 1 rfl) ?_
      refine lv_imul cx.1 cx.2.1 dX12_unit_130 ?_
      obtain ⟨v10, e_v10, h⟩ := md_ob h
      refine md_lI (k := 77) hj cx hw (by decide) rfl rfl rfl e_v10 dX12_unit_131 ?_
      refine lv_aload_n cx.1 cx.2.1 dX12_unit_132 rfl (lv_at hl 0 rfl) ?_
      refine md_gR (k := 76) cx hw hin12c (by decide) (by decide) (List.mem_cons_of_mem _ mm_415) dX12_unit_133 ?_
      refine lv_iconst (v := 2) cx.1 cx.2.1 dX12_unit_136 (by decide) ?_
      refine lv_iload_n cx.1 cx.2.1 dX12_unit_137 rfl (lv_at hl 1 rfl) ?_
      refine lv_imul cx.1 cx.2.1 dX12_unit_138 ?_
      obtain ⟨v11, e_v11, h⟩ := md_ob h
      refine md_lI (k := 76) hj cx hw (by decide) rfl rfl rfl e_v11 dX12_unit_139 ?_
      refine lv_isub cx.1 cx.2.1 dX12_unit_140 ?_
      exact hp_iret cx hw (md_ret h) dX12_unit_141
    have h := md_in c16_7 h
    by_cases c16_8 : a2 = 8
    · refine lv_tableIn (off := 126) (tgt := 142) cx.1 cx.2.1 dX12_unit_16 (by rw [c16_8]; decide) (by rw [c16_8]; decide) (by rw [c16_8]; decide) (by decide) ?_
      have h := md_ip c16_8 h
      refine lv_aload_n cx.1 cx.2.1 dX12_unit_142 rfl (lv_at hl 0 rfl) ?_
      refine md_gR (k := 77) cx hw hin12c (by decide) (by decide) (List.mem_cons_of_mem _ mm_467) dX12_unit_143 ?_
      refine lv_iconst (v := 2) cx.1 cx.2.1 dX12_unit_146 (by decide) ?_
      refine lv_iload_n cx.1 cx.2.1 dX12_unit_147 rfl (lv_at hl 1 rfl) ?_
      refine lv_imul cx.1 cx.2.1 dX12_unit_148 ?_
      refine lv_iconst (v := 1) cx.1 cx.2.1 dX12_unit_149 (by decide) ?_
      refine lv_iadd cx.1 cx.2.1 dX12_unit_150 ?_
      obtain ⟨v12, e_v12, h⟩ := md_ob h
      refine md_lI (k := 77) hj cx hw (by decide) rfl rfl rfl e_v12 dX12_unit_151 ?_
      refine lv_aload_n cx.1 cx.2.1 dX12_unit_152 rfl (lv_at hl 0 rfl) ?_
      refine md_gR (k := 76) cx hw hin12c (by decide) (by decide) (List.mem_cons_of_mem _ mm_415) dX12_unit_153 ?_
      refine lv_iconst (v := 2) cx.1 cx.2.1 dX12_unit_156 (by decide) ?_
      refine lv_iload_n cx.1 cx.2.1 dX12_unit_157 rfl (lv_at hl 1 rfl) ?_
      refine lv_imul cx.1 cx.2.1 dX12_unit_158 ?_
      refine lv_iconst (v := 1) cx.1 cx.2.1 dX12_unit_159 (by decide) ?_
      refine lv_iadd cx.1 cx.2.1 dX12_unit_160 ?_
      obtain ⟨v13, e_v13, h⟩ := md_ob h
      refine md_lI (k := 76) hj cx hw (by decide) rfl rfl rfl e_v13 dX12_unit_161 ?_
      refine lv_isub cx.1 cx.2.1 dX12_unit_162 ?_
      exact hp_iret cx hw (md_ret h) dX12_unit_163
    have h := md_in c16_8 h
    have nc16_0 := md_nei c16_0
    have nc16_1 := md_nei c16_1
    have nc16_2 := md_nei c16_2
    have nc16_3 := md_nei c16_3
    have nc16_4 := md_nei c16_4
    have nc16_5 := md_nei c16_5
    have nc16_6 := md_nei c16_6
    have nc16_7 := md_nei c16_7
    have nc16_8 := md_nei c16_8
    refine lv_tableOut (tgt := 164) cx.1 cx.2.1 dX12_unit_16 (by have := nc16_0; rw [show ((0 : Int32)).toInt = 0 from by decide] at this; have := nc16_1; rw [show ((1 : Int32)).toInt = 1 from by decide] at this; have := nc16_2; rw [show ((2 : Int32)).toInt = 2 from by decide] at this; have := nc16_3; rw [show ((3 : Int32)).toInt = 3 from by decide] at this; have := nc16_4; rw [show ((4 : Int32)).toInt = 4 from by decide] at this; have := nc16_5; rw [show ((5 : Int32)).toInt = 5 from by decide] at this; have := nc16_6; rw [show ((6 : Int32)).toInt = 6 from by decide] at this; have := nc16_7; rw [show ((7 : Int32)).toInt = 7 from by decide] at this; have := nc16_8; rw [show ((8 : Int32)).toInt = 8 from by decide] at this;  omega) (by decide) ?_
    refine lv_iconst (v := (-1)) cx.1 cx.2.1 dX12_unit_164 (by decide) ?_
    exact hp_iret cx hw (md_ret h) dX12_unit_165
  · have h := md_ip c10 h
    refine lv_iconst (v := (-1)) cx.1 cx.2.1 dX12_unit_13 (by decide) ?_
    exact hp_iret cx hw (md_ret h) dX12_unit_14
set_option maxHeartbeats 4000000 in
set_option maxRecDepth 100000 in
theorem km_X12_code (l : Launch) (D : va_G) (cA : Nat → ClassId) (E : hp_N) (sz : Nat) (ad : Nat → Nat) (hj : md_inj ad) (hE : md_E E) (n : Nat) (σ0 : md_S) (a1 : Int32) (a2 : Int32) (a3 : Int32) (p : (Int32 × md_S)) (h : f_X12_code n σ0 a1 a2 a3 = some p) : Met l yX12_code (Cond.code yX12_code cX12_code 5 (some .int) :: v_MOD) ({ frames := 2, cells := 0, slots := 0, locals := 46 }) (hp_Pc D vwCl (hp_Tl cA) E sz (md_pic cA ad σ0) [.ref (ad 137), .int a1, .int a2, .int a3]) (hp_Qi D vwCl (hp_Tl cA) sz (md_pic cA ad σ0) (fun r u => r = p.1 ∧ u = md_pic cA ad p.2)) 0 0 (hp_A (md_pic cA ad σ0) sz) := by
  refine hp_ofW (cc := cX12_code) (maxL := 5) (ret := (some .int)) (by decide) rfl (Nat.le_of_ble_eq_true rfl) ?_
  intro pp ee ss mm bb mt cd ls cx hsz hw hl
  have hl : lv_has ls 5 [(0, .ref (ad 137)), (1, .int a1), (2, .int a2), (3, .int a3)] := hl
  have J27 : ∀ (σ : md_S) (l3 : Int32) (t0 : Int32) (t1 : Int32) (H : Heap) (locs : List Loc) (ls : Array Slot), f_X12_code_J27 n σ l3 t0 t1 = some p → hp_w D vwCl (hp_Tl cA) E (hp_A (md_pic cA ad σ0) sz) ss H locs (md_pic cA ad σ) → lv_has ls 5 [(0, .ref (ad 137)), (3, .int l3)] → W pp l ee ({ frames := 2, cells := 0, slots := 0, locals := 46 }) ss mm [.ref (ad 137), .int a1, .int a2, .int a3].toArray bb mt cd H locs 0 0 (MQ bb (hp_Qi D vwCl (hp_Tl cA) sz (md_pic cA ad σ0) (fun r u => r = p.1 ∧ u = md_pic cA ad p.2)) [.ref (ad 137), .int a1, .int a2, .int a3].toArray ss 0 0 (hp_A (md_pic cA ad σ0) sz)) (F0 mm 27 ls [.int t0, .int t1]) := by
    intro σ l3 t0 t1 H locs ls h hw hl
    refine lv_iadd cx.1 cx.2.1 dX12_code_27 ?_
    refine lv_istore (lv' := [(4, .int (t1 + t0)), (0, .ref (ad 137)), (3, .int l3)]) cx.1 cx.2.1 dX12_code_28 hl (by decide) rfl (fun ls hl => ?_)
    refine lv_iload_n cx.1 cx.2.1 dX12_code_30 rfl (lv_at hl 2 rfl) ?_
    refine lv_i2l (v := (l3.toInt64)) cx.1 cx.2.1 dX12_code_31 rfl ?_
    refine lv_lconst (v := 0) cx.1 cx.2.1 dX12_code_32 (by decide) ?_
    refine lv_aload_n cx.1 cx.2.1 dX12_code_33 rfl (lv_at hl 1 rfl) ?_
    refine md_gR (k := 77) cx hw hin12c (by decide) (by decide) (List.mem_cons_of_mem _ mm_467) dX12_code_34 ?_
    refine lv_iload cx.1 cx.2.1 dX12_code_37 (lv_at hl 0 rfl) ?_
    obtain ⟨v1, e_v1, h⟩ := md_ob h
    refine md_lI (k := 77) hj cx hw (by decide) rfl rfl rfl e_v1 dX12_code_39 ?_
    refine lv_aload_n cx.1 cx.2.1 dX12_code_40 rfl (lv_at hl 1 rfl) ?_
    refine md_gR (k := 76) cx hw hin12c (by decide) (by decide) (List.mem_cons_of_mem _ mm_415) dX12_code_41 ?_
    refine lv_iload cx.1 cx.2.1 dX12_code_44 (lv_at hl 0 rfl) ?_
    obtain ⟨v2, e_v2, h⟩ := md_ob h
    refine md_lI (k := 76) hj cx hw (by decide) rfl rfl rfl e_v2 dX12_code_46 ?_
    refine lv_isub cx.1 cx.2.1 dX12_code_47 ?_
    refine lv_iconst (v := 1) cx.1 cx.2.1 dX12_code_48 (by decide) ?_
    refine lv_isub cx.1 cx.2.1 dX12_code_49 ?_
    refine lv_i2l (v := (((v1 - v2) - 1).toInt64)) cx.1 cx.2.1 dX12_code_50 rfl ?_
    obtain ⟨p3, e_p3, h⟩ := md_ob h
    refine hp_callSi (As := [.long (l3.toInt64), .long 0, .long (((v1 - v2) - 1).toInt64)]) (rest := []) cx hw (km_X12_in l D cA E _ ad hj hE n σ ((l3.toInt64)) (0 : Int64) ((((v1 - v2) - 1).toInt64)) p3 e_p3) (cwS 3 cx.2.2.2.2.2.1 (md_giS mm_3 mm_4 mm_5 mm_6) rfl rfl rfl hd_X12_in ⟨Nat.le_of_ble_eq_true rfl, Nat.le_of_ble_eq_true rfl⟩) rfl hl.1 rfl (Nat.le_of_ble_eq_true rfl) dX12_code_51 ⟨Nat.le_refl _, Nat.le_refl _⟩ (fun r u H locs hp hw => ?_)
    obtain ⟨rfl, rfl⟩ := hp
    refine lv_if_eq (tgt := 78) cx.1 cx.2.1 dX12_code_54 (by decide) (fun c54 => ?_) (fun c54 => ?_)
    · have h := md_ip c54 h
      refine lv_iconst (v := (-1)) cx.1 cx.2.1 dX12_code_78 (by decide) ?_
      exact hp_iret cx hw (md_ret h) dX12_code_79
    · have h := md_in c54 h
      refine lv_aload_n cx.1 cx.2.1 dX12_code_57 rfl (lv_at hl 1 rfl) ?_
      refine md_gR (k := 74) cx hw hin12c (by decide) (by decide) (List.mem_cons_of_mem _ mm_393) dX12_code_58 ?_
      refine lv_aload_n cx.1 cx.2.1 dX12_code_61 rfl (lv_at hl 1 rfl) ?_
      refine md_gR (k := 76) cx hw hin12c (by decide) (by decide) (List.mem_cons_of_mem _ mm_415) dX12_code_62 ?_
      refine lv_iload cx.1 cx.2.1 dX12_code_65 (lv_at hl 0 rfl) ?_
      obtain ⟨v4, e_v4, h⟩ := md_ob h
      refine md_lI (k := 76) hj cx hw (by decide) rfl rfl rfl e_v4 dX12_code_67 ?_
      refine lv_iload_n cx.1 cx.2.1 dX12_code_68 rfl (lv_at hl 2 rfl) ?_
      refine lv_iadd cx.1 cx.2.1 dX12_code_69 ?_
      obtain ⟨v5, e_v5, h⟩ := md_ob h
      refine md_lB (k := 74) hj cx hw (by decide) rfl rfl rfl e_v5 dX12_code_70 ?_
      refine lv_sipush (v := 255) cx.1 cx.2.1 dX12_code_71 (by decide) ?_
      refine lv_iand cx.1 cx.2.1 dX12_code_74 ?_
      refine lv_goto (tgt := 79) cx.1 cx.2.1 dX12_code_75 (by decide) ?_
      exact hp_iret cx hw (md_ret h) dX12_code_79
  refine lv_aload_n cx.1 cx.2.1 dX12_code_0 rfl (lv_at hl 0 rfl) ?_
  refine lv_iconst (v := 0) cx.1 cx.2.1 dX12_code_1 (by decide) ?_
  obtain ⟨σ6, e_σ6, h⟩ := md_ob h
  refine md_pI (k := 0) cx hw hin12c rfl (by decide) rfl (List.mem_cons_of_mem _ mm_0) rfl e_σ6 dX12_code_2 (fun H locs hw => ?_)
  refine lv_aload_n cx.1 cx.2.1 dX12_code_5 rfl (lv_at hl 0 rfl) ?_
  refine lv_iload_n cx.1 cx.2.1 dX12_code_6 rfl (lv_at hl 1 rfl) ?_
  obtain ⟨p7, e_p7, h⟩ := md_ob h
  refine hp_callVi (As := [.int a1]) (rest := []) cx hw (km_X12_isUnit l D cA E _ ad hj hE n σ6 a1 p7 e_p7) (cwV 1 cx.2.2.2.2.2.1 (md_giV mm_488 mm_489 mm_490 mm_5 mm_491) rfl rfl rfl hd_X12_isUnit ⟨Nat.le_of_ble_eq_true rfl, Nat.le_of_ble_eq_true rfl⟩) md_at0 rfl rfl hl.1 rfl (Nat.le_of_ble_eq_true rfl) dX12_code_7 ⟨Nat.le_refl _, Nat.le_refl _⟩ (fun r u H locs hp hw => ?_)
  obtain ⟨rfl, rfl⟩ := hp
  refine lv_if_ne (tgt := 15) cx.1 cx.2.1 dX12_code_10 (by decide) (fun c10 => ?_) (fun c10 => ?_)
  · have h := md_in c10 h
    refine lv_iconst (v := 2) cx.1 cx.2.1 dX12_code_15 (by decide) ?_
    refine lv_iload_n cx.1 cx.2.1 dX12_code_16 rfl (lv_at hl 1 rfl) ?_
    refine lv_imul cx.1 cx.2.1 dX12_code_17 ?_
    refine lv_iload_n cx.1 cx.2.1 dX12_code_18 rfl (lv_at hl 2 rfl) ?_
    refine lv_if_eq (tgt := 26) cx.1 cx.2.1 dX12_code_19 (by decide) (fun c19 => ?_) (fun c19 => ?_)
    · have h := md_ip c19 h
      refine lv_iconst (v := 0) cx.1 cx.2.1 dX12_code_26 (by decide) ?_
      exact J27 p7.2 a3 0 (((2 : Int32) * a1)) _ _ _ h hw (lv_sub hl [0, 3] rfl)
    · have h := md_in c19 h
      refine lv_iconst (v := 1) cx.1 cx.2.1 dX12_code_22 (by decide) ?_
      refine lv_goto (tgt := 27) cx.1 cx.2.1 dX12_code_23 (by decide) ?_
      exact J27 p7.2 a3 1 (((2 : Int32) * a1)) _ _ _ h hw (lv_sub hl [0, 3] rfl)
  · have h := md_ip c10 h
    refine lv_iconst (v := (-1)) cx.1 cx.2.1 dX12_code_13 (by decide) ?_
    exact hp_iret cx hw (md_ret h) dX12_code_14
set_option maxHeartbeats 4000000 in
set_option maxRecDepth 100000 in
theorem km_X12_number (l : Launch) (D : va_G) (cA : Nat → ClassId) (E : hp_N) (sz : Nat) (ad : Nat → Nat) (hj : md_inj ad) (hE : md_E E) (n : Nat) (σ0 : md_S) (a1 : Int32) (p : (Int32 × md_S)) (h : f_X12_number n σ0 a1 = some p) : Met l yX12_number (Cond.code yX12_number cX12_number 2 (some .int) :: v_MOD) ({ frames := 1, cells := 0, slots := 0, locals := 25 }) (hp_Pc D vwCl (hp_Tl cA) E sz (md_pic cA ad σ0) [.ref (ad 137), .int a1]) (hp_Qi D vwCl (hp_Tl cA) sz (md_pic cA ad σ0) (fun r u => r = p.1 ∧ u = md_pic cA ad p.2)) 0 0 (hp_A (md_pic cA ad σ0) sz) := by
  refine hp_ofW (cc := cX12_number) (maxL := 2) (ret := (some .int)) (by decide) rfl (Nat.le_of_ble_eq_true rfl) ?_
  intro pp ee ss mm bb mt cd ls cx hsz hw hl
  have hl : lv_has ls 2 [(0, .ref (ad 137)), (1, .int a1)] := hl
  refine lv_aload_n cx.1 cx.2.1 dX12_number_0 rfl (lv_at hl 0 rfl) ?_
  refine lv_iconst (v := 0) cx.1 cx.2.1 dX12_number_1 (by decide) ?_
  obtain ⟨σ1, e_σ1, h⟩ := md_ob h
  refine md_pI (k := 0) cx hw hin12c rfl (by decide) rfl (List.mem_cons_of_mem _ mm_0) rfl e_σ1 dX12_number_2 (fun H locs hw => ?_)
  refine lv_aload_n cx.1 cx.2.1 dX12_number_5 rfl (lv_at hl 0 rfl) ?_
  refine md_gI (k := 5) cx hw hin12c rfl (by decide) (List.mem_cons_of_mem _ mm_469) dX12_number_6 ?_
  refine lv_if_eq (tgt := 37) cx.1 cx.2.1 dX12_number_9 (by decide) (fun c9 => ?_) (fun c9 => ?_)
  · have h := md_ip c9 h
    refine lv_iconst (v := 0) cx.1 cx.2.1 dX12_number_37 (by decide) ?_
    exact hp_iret cx hw (md_ret h) dX12_number_38
  · have h := md_in c9 h
    refine lv_iload_n cx.1 cx.2.1 dX12_number_12 rfl (lv_at hl 1 rfl) ?_
    refine lv_i2l (v := (a1.toInt64)) cx.1 cx.2.1 dX12_number_13 rfl ?_
    refine lv_lconst (v := 0) cx.1 cx.2.1 dX12_number_14 (by decide) ?_
    refine lv_aload_n cx.1 cx.2.1 dX12_number_15 rfl (lv_at hl 0 rfl) ?_
    refine md_gI (k := 58) cx hw hin12c rfl (by decide) (List.mem_cons_of_mem _ mm_275) dX12_number_16 ?_
    refine lv_iconst (v := 1) cx.1 cx.2.1 dX12_number_19 (by decide) ?_
    refine lv_isub cx.1 cx.2.1 dX12_number_20 ?_
    refine lv_i2l (v := (((mI σ1 58) - 1).toInt64)) cx.1 cx.2.1 dX12_number_21 rfl ?_
    obtain ⟨p2, e_p2, h⟩ := md_ob h
    refine hp_callSi (As := [.long (a1.toInt64), .long 0, .long (((mI σ1 58) - 1).toInt64)]) (rest := []) cx hw (km_X12_in l D cA E _ ad hj hE n σ1 ((a1.toInt64)) (0 : Int64) ((((mI σ1 58) - 1).toInt64)) p2 e_p2) (cwS 3 cx.2.2.2.2.2.1 (md_giS mm_3 mm_4 mm_5 mm_6) rfl rfl rfl hd_X12_in ⟨Nat.le_of_ble_eq_true rfl, Nat.le_of_ble_eq_true rfl⟩) rfl hl.1 rfl (Nat.le_of_ble_eq_true rfl) dX12_number_22 ⟨Nat.le_refl _, Nat.le_refl _⟩ (fun r u H locs hp hw => ?_)
    obtain ⟨rfl, rfl⟩ := hp
    refine lv_if_eq (tgt := 37) cx.1 cx.2.1 dX12_number_25 (by decide) (fun c25 => ?_) (fun c25 => ?_)
    · have h := md_ip c25 h
      refine lv_iconst (v := 0) cx.1 cx.2.1 dX12_number_37 (by decide) ?_
      exact hp_iret cx hw (md_ret h) dX12_number_38
    · have h := md_in c25 h
      refine lv_aload_n cx.1 cx.2.1 dX12_number_28 rfl (lv_at hl 0 rfl) ?_
      refine md_gR (k := 59) cx hw hin12c (by decide) (by decide) (List.mem_cons_of_mem _ mm_276) dX12_number_29 ?_
      refine lv_iload_n cx.1 cx.2.1 dX12_number_32 rfl (lv_at hl 1 rfl) ?_
      obtain ⟨v3, e_v3, h⟩ := md_ob h
      refine md_lI (k := 59) hj cx hw (by decide) rfl rfl rfl e_v3 dX12_number_33 ?_
      refine lv_goto (tgt := 38) cx.1 cx.2.1 dX12_number_34 (by decide) ?_
      exact hp_iret cx hw (md_ret h) dX12_number_38
set_option maxHeartbeats 4000000 in
set_option maxRecDepth 100000 in
theorem km_X12_domain (l : Launch) (D : va_G) (cA : Nat → ClassId) (E : hp_N) (sz : Nat) (ad : Nat → Nat) (hj : md_inj ad) (hE : md_E E) (n : Nat) (σ0 : md_S) (a1 : Int32) (p : (Int32 × md_S)) (h : f_X12_domain n σ0 a1 = some p) : Met l yX12_domain (Cond.code yX12_domain cX12_domain 2 (some .int) :: v_MOD) ({ frames := 1, cells := 0, slots := 0, locals := 25 }) (hp_Pc D vwCl (hp_Tl cA) E sz (md_pic cA ad σ0) [.ref (ad 137), .int a1]) (hp_Qi D vwCl (hp_Tl cA) sz (md_pic cA ad σ0) (fun r u => r = p.1 ∧ u = md_pic cA ad p.2)) 0 0 (hp_A (md_pic cA ad σ0) sz) := by
  refine hp_ofW (cc := cX12_domain) (maxL := 2) (ret := (some .int)) (by decide) rfl (Nat.le_of_ble_eq_true rfl) ?_
  intro pp ee ss mm bb mt cd ls cx hsz hw hl
  have hl : lv_has ls 2 [(0, .ref (ad 137)), (1, .int a1)] := hl
  refine lv_aload_n cx.1 cx.2.1 dX12_domain_0 rfl (lv_at hl 0 rfl) ?_
  refine lv_iconst (v := 0) cx.1 cx.2.1 dX12_domain_1 (by decide) ?_
  obtain ⟨σ1, e_σ1, h⟩ := md_ob h
  refine md_pI (k := 0) cx hw hin12c rfl (by decide) rfl (List.mem_cons_of_mem _ mm_0) rfl e_σ1 dX12_domain_2 (fun H locs hw => ?_)
  refine lv_aload_n cx.1 cx.2.1 dX12_domain_5 rfl (lv_at hl 0 rfl) ?_
  refine md_gI (k := 5) cx hw hin12c rfl (by decide) (List.mem_cons_of_mem _ mm_469) dX12_domain_6 ?_
  refine lv_if_eq (tgt := 37) cx.1 cx.2.1 dX12_domain_9 (by decide) (fun c9 => ?_) (fun c9 => ?_)
  · have h := md_ip c9 h
    refine lv_iconst (v := (-1)) cx.1 cx.2.1 dX12_domain_37 (by decide) ?_
    exact hp_iret cx hw (md_ret h) dX12_domain_38
  · have h := md_in c9 h
    refine lv_iload_n cx.1 cx.2.1 dX12_domain_12 rfl (lv_at hl 1 rfl) ?_
    refine lv_i2l (v := (a1.toInt64)) cx.1 cx.2.1 dX12_domain_13 rfl ?_
    refine lv_lconst (v := 0) cx.1 cx.2.1 dX12_domain_14 (by decide) ?_
    refine lv_aload_n cx.1 cx.2.1 dX12_domain_15 rfl (lv_at hl 0 rfl) ?_
    refine md_gI (k := 25) cx hw hin12c rfl (by decide) (List.mem_cons_of_mem _ mm_137) dX12_domain_16 ?_
    refine lv_iconst (v := 1) cx.1 cx.2.1 dX12_domain_19 (by decide) ?_
    refine lv_isub cx.1 cx.2.1 dX12_domain_20 ?_
    refine lv_i2l (v := (((mI σ1 25) - 1).toInt64)) cx.1 cx.2.1 dX12_domain_21 rfl ?_
    obtain ⟨p2, e_p2, h⟩ := md_ob h
    refine hp_callSi (As := [.long (a1.toInt64), .long 0, .long (((mI σ1 25) - 1).toInt64)]) (rest := []) cx hw (km_X12_in l D cA E _ ad hj hE n σ1 ((a1.toInt64)) (0 : Int64) ((((mI σ1 25) - 1).toInt64)) p2 e_p2) (cwS 3 cx.2.2.2.2.2.1 (md_giS mm_3 mm_4 mm_5 mm_6) rfl rfl rfl hd_X12_in ⟨Nat.le_of_ble_eq_true rfl, Nat.le_of_ble_eq_true rfl⟩) rfl hl.1 rfl (Nat.le_of_ble_eq_true rfl) dX12_domain_22 ⟨Nat.le_refl _, Nat.le_refl _⟩ (fun r u H locs hp hw => ?_)
    obtain ⟨rfl, rfl⟩ := hp
    refine lv_if_eq (tgt := 37) cx.1 cx.2.1 dX12_domain_25 (by decide) (fun c25 => ?_) (fun c25 => ?_)
    · have h := md_ip c25 h
      refine lv_iconst (v := (-1)) cx.1 cx.2.1 dX12_domain_37 (by decide) ?_
      exact hp_iret cx hw (md_ret h) dX12_domain_38
    · have h := md_in c25 h
      refine lv_aload_n cx.1 cx.2.1 dX12_domain_28 rfl (lv_at hl 0 rfl) ?_
      refine md_gR (k := 32) cx hw hin12c (by decide) (by decide) (List.mem_cons_of_mem _ mm_138) dX12_domain_29 ?_
      refine lv_iload_n cx.1 cx.2.1 dX12_domain_32 rfl (lv_at hl 1 rfl) ?_
      obtain ⟨v3, e_v3, h⟩ := md_ob h
      refine md_lI (k := 32) hj cx hw (by decide) rfl rfl rfl e_v3 dX12_domain_33 ?_
      refine lv_goto (tgt := 38) cx.1 cx.2.1 dX12_domain_34 (by decide) ?_
      exact hp_iret cx hw (md_ret h) dX12_domain_38
set_option maxHeartbeats 4000000 in
set_option maxRecDepth 100000 in
theorem km_X12_asks (l : Launch) (D : va_G) (cA : Nat → ClassId) (E : hp_N) (sz : Nat) (ad : Nat → Nat) (hj : md_inj ad) (hE : md_E E) (n : Nat) (σ0 : md_S) (p : (Int32 × md_S)) (h : f_X12_asks n σ0 = some p) : Met l yX12_asks (Cond.code yX12_asks cX12_asks 8 (some .boolean) :: v_MOD) ({ frames := 8, cells := 0, slots := 0, locals := 198 }) (hp_Pc D vwCl (hp_Tl cA) E sz (md_pic cA ad σ0) [.ref (ad 137)]) (hp_Qi D vwCl (hp_Tl cA) sz (md_pic cA ad σ0) (fun r u => r = p.1 ∧ u = md_pic cA ad p.2)) 0 0 (hp_A (md_pic cA ad σ0) sz) := by
  refine hp_ofW (cc := cX12_asks) (maxL := 8) (ret := (some .boolean)) (by decide) rfl (Nat.le_of_ble_eq_true rfl) ?_
  intro pp ee ss mm bb mt cd ls cx hsz hw hl
  have hl : lv_has ls 8 [(0, .ref (ad 137))] := hl
  have J206 : ∀ (σ : md_S) (l1 : Int32) (l2 : Int32) (l3 : Int32) (H : Heap) (locs : List Loc) (ls : Array Slot), f_X12_asks_J206 n σ l1 l2 l3 = some p → hp_w D vwCl (hp_Tl cA) E (hp_A (md_pic cA ad σ0) sz) ss H locs (md_pic cA ad σ) → lv_has ls 8 [(0, .ref (ad 137)), (1, .int l1), (2, .int l2), (3, .int l3)] → W pp l ee ({ frames := 8, cells := 0, slots := 0, locals := 198 }) ss mm [.ref (ad 137)].toArray bb mt cd H locs 0 0 (MQ bb (hp_Qi D vwCl (hp_Tl cA) sz (md_pic cA ad σ0) (fun r u => r = p.1 ∧ u = md_pic cA ad p.2)) [.ref (ad 137)].toArray ss 0 0 (hp_A (md_pic cA ad σ0) sz)) (F0 mm 206 ls []) := by
    intro σ l1 l2 l3 H locs ls h hw hl
    refine lv_aload_n cx.1 cx.2.1 dX12_asks_206 rfl (lv_at hl 0 rfl) ?_
    refine lv_iload_n cx.1 cx.2.1 dX12_asks_207 rfl (lv_at hl 1 rfl) ?_
    obtain ⟨σ1, e_σ1, h⟩ := md_ob h
    refine md_pI (k := 6) cx hw hin12c rfl (by decide) rfl (List.mem_cons_of_mem _ mm_13) rfl e_σ1 dX12_asks_208 (fun H locs hw => ?_)
    refine lv_aload_n cx.1 cx.2.1 dX12_asks_211 rfl (lv_at hl 0 rfl) ?_
    refine lv_iload_n cx.1 cx.2.1 dX12_asks_212 rfl (lv_at hl 2 rfl) ?_
    obtain ⟨σ2, e_σ2, h⟩ := md_ob h
    refine md_pI (k := 7) cx hw hin12c rfl (by decide) rfl (List.mem_cons_of_mem _ mm_14) rfl e_σ2 dX12_asks_213 (fun H locs hw => ?_)
    refine lv_iload_n cx.1 cx.2.1 dX12_asks_216 rfl (lv_at hl 3 rfl) ?_
    obtain ⟨z3, e_z3, h⟩ := md_ob h
    rw [(md_zbs e_z3).1] at h
    exact hp_zret cx hw (md_ret h) (md_nbn (md_zbs e_z3).2) dX12_asks_217
  have J177 : ∀ (σ : md_S) (l1 : Int32) (l2 : Int32) (l4 : Int64) (l6 : Int32) (t0 : Int32) (H : Heap) (locs : List Loc) (ls : Array Slot), f_X12_asks_J177 n σ l1 l2 l4 l6 t0 = some p → hp_w D vwCl (hp_Tl cA) E (hp_A (md_pic cA ad σ0) sz) ss H locs (md_pic cA ad σ) → lv_has ls 8 [(0, .ref (ad 137)), (1, .int l1), (2, .int l2), (4, .long l4), (6, .int l6)] → W pp l ee ({ frames := 8, cells := 0, slots := 0, locals := 198 }) ss mm [.ref (ad 137)].toArray bb mt cd H locs 0 0 (MQ bb (hp_Qi D vwCl (hp_Tl cA) sz (md_pic cA ad σ0) (fun r u => r = p.1 ∧ u = md_pic cA ad p.2)) [.ref (ad 137)].toArray ss 0 0 (hp_A (md_pic cA ad σ0) sz)) (F0 mm 177 ls [.int t0]) := by
    intro σ l1 l2 l4 l6 t0 H locs ls h hw hl
    refine lv_istore_n (lv' := [(3, .int t0), (0, .ref (ad 137)), (1, .int l1), (2, .int l2), (4, .long l4), (6, .int l6)]) cx.1 cx.2.1 dX12_asks_177 rfl hl (by decide) rfl (fun ls hl => ?_)
    refine lv_iload_n cx.1 cx.2.1 dX12_asks_178 rfl (lv_at hl 0 rfl) ?_
    refine lv_if_eq (tgt := 206) cx.1 cx.2.1 dX12_asks_179 (by decide) (fun c179 => ?_) (fun c179 => ?_)
    · have h := md_ip c179 h
      exact J206 σ l1 l2 t0 _ _ _ h hw (lv_sub hl [1, 2, 3, 0] rfl)
    · have h := md_in c179 h
      refine lv_aload_n cx.1 cx.2.1 dX12_asks_182 rfl (lv_at hl 1 rfl) ?_
      refine lv_iload cx.1 cx.2.1 dX12_asks_183 (lv_at hl 5 rfl) ?_
      obtain ⟨σ4, e_σ4, h⟩ := md_ob h
      refine md_pI (k := 14) cx hw hin12c rfl (by decide) rfl (List.mem_cons_of_mem _ mm_60) rfl e_σ4 dX12_asks_185 (fun H locs hw => ?_)
      refine lv_aload_n cx.1 cx.2.1 dX12_asks_188 rfl (lv_at hl 1 rfl) ?_
      refine lv_sipush (v := 264) cx.1 cx.2.1 dX12_asks_189 (by decide) ?_
      obtain ⟨p5, e_p5, h⟩ := md_ob h
      refine hp_callVv (As := [.int 264]) (rest := []) cx hw (km_X12_keepPattern l D cA E _ ad hj hE n σ4 (264 : Int32) p5 e_p5) (cwV 1 cx.2.2.2.2.2.1 (md_giV mm_103 mm_104 mm_105 mm_5 mm_106) rfl rfl rfl hd_X12_keepPattern ⟨Nat.le_of_ble_eq_true rfl, Nat.le_of_ble_eq_true rfl⟩) md_at0 rfl rfl hl.1 rfl (Nat.le_of_ble_eq_true rfl) dX12_asks_192 ⟨Nat.le_refl _, Nat.le_refl _⟩ (fun u H locs hp hw => ?_)
      obtain rfl := hp
      refine lv_aload_n cx.1 cx.2.1 dX12_asks_195 rfl (lv_at hl 1 rfl) ?_
      refine lv_lload cx.1 cx.2.1 dX12_asks_196 (lv_at hl 4 rfl) ?_
      obtain ⟨σ6, e_σ6, h⟩ := md_ob h
      refine md_pJ (k := 82) cx hw hin12c rfl (by decide) rfl (List.mem_cons_of_mem _ mm_492) rfl e_σ6 dX12_asks_198 (fun H locs hw => ?_)
      refine lv_aload_n cx.1 cx.2.1 dX12_asks_201 rfl (lv_at hl 1 rfl) ?_
      refine lv_iconst (v := 1) cx.1 cx.2.1 dX12_asks_202 (by decide) ?_
      obtain ⟨σ7, e_σ7, h⟩ := md_ob h
      refine md_pZ (k := 81) cx hw hin12c rfl (by decide) rfl (List.mem_cons_of_mem _ mm_493) rfl (by decide) e_σ7 dX12_asks_203 (fun H locs hw => ?_)
      exact J206 σ7 l1 l2 t0 _ _ _ h hw (lv_sub hl [1, 2, 3, 0] rfl)
  have J176 : ∀ (σ : md_S) (l1 : Int32) (l2 : Int32) (l4 : Int64) (l6 : Int32) (H : Heap) (locs : List Loc) (ls : Array Slot), f_X12_asks_J176 n σ l1 l2 l4 l6 = some p → hp_w D vwCl (hp_Tl cA) E (hp_A (md_pic cA ad σ0) sz) ss H locs (md_pic cA ad σ) → lv_has ls 8 [(0, .ref (ad 137)), (1, .int l1), (2, .int l2), (4, .long l4), (6, .int l6)] → W pp l ee ({ frames := 8, cells := 0, slots := 0, locals := 198 }) ss mm [.ref (ad 137)].toArray bb mt cd H locs 0 0 (MQ bb (hp_Qi D vwCl (hp_Tl cA) sz (md_pic cA ad σ0) (fun r u => r = p.1 ∧ u = md_pic cA ad p.2)) [.ref (ad 137)].toArray ss 0 0 (hp_A (md_pic cA ad σ0) sz)) (F0 mm 176 ls []) := by
    intro σ l1 l2 l4 l6 H locs ls h hw hl
    refine lv_iconst (v := 0) cx.1 cx.2.1 dX12_asks_176 (by decide) ?_
    exact J177 σ l1 l2 l4 l6 0 _ _ _ h hw (lv_sub hl [0, 1, 2, 3, 4] rfl)
  have J138 : ∀ (σ : md_S) (l1 : Int32) (l2 : Int32) (l3 : Int32) (l4 : Int64) (H : Heap) (locs : List Loc) (ls : Array Slot), f_X12_asks_J138 n σ l1 l2 l3 l4 = some p → hp_w D vwCl (hp_Tl cA) E (hp_A (md_pic cA ad σ0) sz) ss H locs (md_pic cA ad σ) → lv_has ls 8 [(0, .ref (ad 137)), (1, .int l1), (2, .int l2), (3, .int l3), (4, .long l4)] → W pp l ee ({ frames := 8, cells := 0, slots := 0, locals := 198 }) ss mm [.ref (ad 137)].toArray bb mt cd H locs 0 0 (MQ bb (hp_Qi D vwCl (hp_Tl cA) sz (md_pic cA ad σ0) (fun r u => r = p.1 ∧ u = md_pic cA ad p.2)) [.ref (ad 137)].toArray ss 0 0 (hp_A (md_pic cA ad σ0) sz)) (F0 mm 138 ls []) := by
    intro σ l1 l2 l3 l4 H locs ls h hw hl
    refine lv_iload_n cx.1 cx.2.1 dX12_asks_138 rfl (lv_at hl 3 rfl) ?_
    refine lv_if_eq (tgt := 206) cx.1 cx.2.1 dX12_asks_139 (by decide) (fun c139 => ?_) (fun c139 => ?_)
    · have h := md_ip c139 h
      exact J206 σ l1 l2 l3 _ _ _ h hw (lv_sub hl [0, 1, 2, 3] rfl)
    · have h := md_in c139 h
      refine lv_aload_n cx.1 cx.2.1 dX12_asks_142 rfl (lv_at hl 0 rfl) ?_
      refine md_gI (k := 14) cx hw hin12c rfl (by decide) (List.mem_cons_of_mem _ mm_60) dX12_asks_143 ?_
      refine lv_istore (lv' := [(6, .int (mI σ 14)), (0, .ref (ad 137)), (1, .int l1), (2, .int l2), (3, .int l3), (4, .long l4)]) cx.1 cx.2.1 dX12_asks_146 hl (by decide) rfl (fun ls hl => ?_)
      refine lv_aload_n cx.1 cx.2.1 dX12_asks_148 rfl (lv_at hl 1 rfl) ?_
      refine md_gI (k := 10) cx hw hin12c rfl (by decide) (List.mem_cons_of_mem _ mm_42) dX12_asks_149 ?_
      refine lv_istore (lv' := [(7, .int (mI σ 10)), (6, .int (mI σ 14)), (0, .ref (ad 137)), (1, .int l1), (2, .int l2), (3, .int l3), (4, .long l4)]) cx.1 cx.2.1 dX12_asks_152 hl (by decide) rfl (fun ls hl => ?_)
      refine lv_aload_n cx.1 cx.2.1 dX12_asks_154 rfl (lv_at hl 2 rfl) ?_
      obtain ⟨p8, e_p8, h⟩ := md_ob h
      refine hp_callVv (As := []) (rest := []) cx hw (km_X12_next l D cA E _ ad hj hE n σ  p8 e_p8) (cwV 0 cx.2.2.2.2.2.1 (md_giV mm_92 mm_93 mm_94 mm_5 mm_95) rfl rfl rfl hd_X12_next ⟨Nat.le_of_ble_eq_true rfl, Nat.le_of_ble_eq_true rfl⟩) md_at0 rfl rfl hl.1 rfl (Nat.le_of_ble_eq_true rfl) dX12_asks_155 ⟨Nat.le_refl _, Nat.le_refl _⟩ (fun u H locs hp hw => ?_)
      obtain rfl := hp
      refine lv_aload_n cx.1 cx.2.1 dX12_asks_158 rfl (lv_at hl 2 rfl) ?_
      obtain ⟨p9, e_p9, h⟩ := md_ob h
      refine hp_callVi (As := []) (rest := []) cx hw (km_X12_isFine l D cA E _ ad hj hE n p8.2  p9 e_p9) (cwV 0 cx.2.2.2.2.2.1 (md_giV mm_64 mm_65 mm_66 mm_5 mm_67) rfl rfl rfl hd_X12_isFine ⟨Nat.le_of_ble_eq_true rfl, Nat.le_of_ble_eq_true rfl⟩) md_at0 rfl rfl hl.1 rfl (Nat.le_of_ble_eq_true rfl) dX12_asks_159 ⟨Nat.le_refl _, Nat.le_refl _⟩ (fun r u H locs hp hw => ?_)
      obtain ⟨rfl, rfl⟩ := hp
      refine lv_if_eq (tgt := 176) cx.1 cx.2.1 dX12_asks_162 (by decide) (fun c162 => ?_) (fun c162 => ?_)
      · have h := md_ip c162 h
        exact J176 p9.2 l1 l2 l4 ((mI σ 14)) _ _ _ h hw (lv_sub hl [2, 3, 4, 6, 1] rfl)
      · have h := md_in c162 h
        refine lv_aload_n cx.1 cx.2.1 dX12_asks_165 rfl (lv_at hl 2 rfl) ?_
        refine md_gI (k := 8) cx hw hin12c rfl (by decide) (List.mem_cons_of_mem _ mm_15) dX12_asks_166 ?_
        refine lv_if_ne (tgt := 176) cx.1 cx.2.1 dX12_asks_169 (by decide) (fun c169 => ?_) (fun c169 => ?_)
        · have h := md_in c169 h
          exact J176 p9.2 l1 l2 l4 ((mI σ 14)) _ _ _ h hw (lv_sub hl [2, 3, 4, 6, 1] rfl)
        · have h := md_ip c169 h
          refine lv_iconst (v := 1) cx.1 cx.2.1 dX12_asks_172 (by decide) ?_
          refine lv_goto (tgt := 177) cx.1 cx.2.1 dX12_asks_173 (by decide) ?_
          exact J177 p9.2 l1 l2 l4 ((mI σ 14)) 1 _ _ _ h hw (lv_sub hl [2, 3, 4, 6, 1] rfl)
  have J137 : ∀ (σ : md_S) (l1 : Int32) (l2 : Int32) (l4 : Int64) (t0 : Int32) (H : Heap) (locs : List Loc) (ls : Array Slot), f_X12_asks_J137 n σ l1 l2 l4 t0 = some p → hp_w D vwCl (hp_Tl cA) E (hp_A (md_pic cA ad σ0) sz) ss H locs (md_pic cA ad σ) → lv_has ls 8 [(0, .ref (ad 137)), (1, .int l1), (2, .int l2), (4, .long l4)] → W pp l ee ({ frames := 8, cells := 0, slots := 0, locals := 198 }) ss mm [.ref (ad 137)].toArray bb mt cd H locs 0 0 (MQ bb (hp_Qi D vwCl (hp_Tl cA) sz (md_pic cA ad σ0) (fun r u => r = p.1 ∧ u = md_pic cA ad p.2)) [.ref (ad 137)].toArray ss 0 0 (hp_A (md_pic cA ad σ0) sz)) (F0 mm 137 ls [.int t0]) := by
    intro σ l1 l2 l4 t0 H locs ls h hw hl
    refine lv_istore_n (lv' := [(3, .int t0), (0, .ref (ad 137)), (1, .int l1), (2, .int l2), (4, .long l4)]) cx.1 cx.2.1 dX12_asks_137 rfl hl (by decide) rfl (fun ls hl => ?_)
    exact J138 σ l1 l2 t0 l4 _ _ _ h hw (lv_sub hl [1, 2, 3, 0, 4] rfl)
  have J136 : ∀ (σ : md_S) (l1 : Int32) (l2 : Int32) (l4 : Int64) (H : Heap) (locs : List Loc) (ls : Array Slot), f_X12_asks_J136 n σ l1 l2 l4 = some p → hp_w D vwCl (hp_Tl cA) E (hp_A (md_pic cA ad σ0) sz) ss H locs (md_pic cA ad σ) → lv_has ls 8 [(0, .ref (ad 137)), (1, .int l1), (2, .int l2), (4, .long l4)] → W pp l ee ({ frames := 8, cells := 0, slots := 0, locals := 198 }) ss mm [.ref (ad 137)].toArray bb mt cd H locs 0 0 (MQ bb (hp_Qi D vwCl (hp_Tl cA) sz (md_pic cA ad σ0) (fun r u => r = p.1 ∧ u = md_pic cA ad p.2)) [.ref (ad 137)].toArray ss 0 0 (hp_A (md_pic cA ad σ0) sz)) (F0 mm 136 ls []) := by
    intro σ l1 l2 l4 H locs ls h hw hl
    refine lv_iconst (v := 0) cx.1 cx.2.1 dX12_asks_136 (by decide) ?_
    exact J137 σ l1 l2 l4 0 _ _ _ h hw (lv_sub hl [0, 1, 2, 3] rfl)
  have J95 : ∀ (σ : md_S) (l1 : Int32) (l2 : Int32) (t0 : Int32) (H : Heap) (locs : List Loc) (ls : Array Slot), f_X12_asks_J95 n σ l1 l2 t0 = some p → hp_w D vwCl (hp_Tl cA) E (hp_A (md_pic cA ad σ0) sz) ss H locs (md_pic cA ad σ) → lv_has ls 8 [(0, .ref (ad 137)), (1, .int l1), (2, .int l2)] → W pp l ee ({ frames := 8, cells := 0, slots := 0, locals := 198 }) ss mm [.ref (ad 137)].toArray bb mt cd H locs 0 0 (MQ bb (hp_Qi D vwCl (hp_Tl cA) sz (md_pic cA ad σ0) (fun r u => r = p.1 ∧ u = md_pic cA ad p.2)) [.ref (ad 137)].toArray ss 0 0 (hp_A (md_pic cA ad σ0) sz)) (F0 mm 95 ls [.int t0]) := by
    intro σ l1 l2 t0 H locs ls h hw hl
    refine lv_istore_n (lv' := [(3, .int t0), (0, .ref (ad 137)), (1, .int l1), (2, .int l2)]) cx.1 cx.2.1 dX12_asks_95 rfl hl (by decide) rfl (fun ls hl => ?_)
    refine lv_aload_n cx.1 cx.2.1 dX12_asks_96 rfl (lv_at hl 1 rfl) ?_
    refine md_gJ (k := 12) cx hw hin12c rfl (by decide) (List.mem_cons_of_mem _ mm_41) dX12_asks_97 ?_
    refine lv_lstore (lv' := [(4, .long (mJ σ 12)), (3, .int t0), (0, .ref (ad 137)), (1, .int l1), (2, .int l2)]) cx.1 cx.2.1 dX12_asks_100 hl (by decide) rfl (fun ls hl => ?_)
    refine lv_iload_n cx.1 cx.2.1 dX12_asks_102 rfl (lv_at hl 1 rfl) ?_
    refine lv_if_eq (tgt := 138) cx.1 cx.2.1 dX12_asks_103 (by decide) (fun c103 => ?_) (fun c103 => ?_)
    · have h := md_ip c103 h
      exact J138 σ l1 l2 t0 ((mJ σ 12)) _ _ _ h hw (lv_sub hl [2, 3, 4, 1, 0] rfl)
    · have h := md_in c103 h
      refine lv_aload_n cx.1 cx.2.1 dX12_asks_106 rfl (lv_at hl 2 rfl) ?_
      obtain ⟨p10, e_p10, h⟩ := md_ob h
      refine hp_callVv (As := []) (rest := []) cx hw (km_X12_next l D cA E _ ad hj hE n σ  p10 e_p10) (cwV 0 cx.2.2.2.2.2.1 (md_giV mm_92 mm_93 mm_94 mm_5 mm_95) rfl rfl rfl hd_X12_next ⟨Nat.le_of_ble_eq_true rfl, Nat.le_of_ble_eq_true rfl⟩) md_at0 rfl rfl hl.1 rfl (Nat.le_of_ble_eq_true rfl) dX12_asks_107 ⟨Nat.le_refl _, Nat.le_refl _⟩ (fun u H locs hp hw => ?_)
      obtain rfl := hp
      refine lv_aload_n cx.1 cx.2.1 dX12_asks_110 rfl (lv_at hl 2 rfl) ?_
      obtain ⟨p11, e_p11, h⟩ := md_ob h
      refine hp_callVi (As := []) (rest := []) cx hw (km_X12_isFine l D cA E _ ad hj hE n p10.2  p11 e_p11) (cwV 0 cx.2.2.2.2.2.1 (md_giV mm_64 mm_65 mm_66 mm_5 mm_67) rfl rfl rfl hd_X12_isFine ⟨Nat.le_of_ble_eq_true rfl, Nat.le_of_ble_eq_true rfl⟩) md_at0 rfl rfl hl.1 rfl (Nat.le_of_ble_eq_true rfl) dX12_asks_111 ⟨Nat.le_refl _, Nat.le_refl _⟩ (fun r u H locs hp hw => ?_)
      obtain ⟨rfl, rfl⟩ := hp
      refine lv_if_eq (tgt := 136) cx.1 cx.2.1 dX12_asks_114 (by decide) (fun c114 => ?_) (fun c114 => ?_)
      · have h := md_ip c114 h
        exact J136 p11.2 l1 l2 ((mJ σ 12)) _ _ _ h hw (lv_sub hl [2, 3, 4, 0] rfl)
      · have h := md_in c114 h
        refine lv_aload_n cx.1 cx.2.1 dX12_asks_117 rfl (lv_at hl 2 rfl) ?_
        refine md_gI (k := 8) cx hw hin12c rfl (by decide) (List.mem_cons_of_mem _ mm_15) dX12_asks_118 ?_
        refine lv_iconst (v := 4) cx.1 cx.2.1 dX12_asks_121 (by decide) ?_
        refine lv_icmp_ne (tgt := 136) cx.1 cx.2.1 dX12_asks_122 (by decide) (fun c122 => ?_) (fun c122 => ?_)
        · have h := md_in c122 h
          exact J136 p11.2 l1 l2 ((mJ σ 12)) _ _ _ h hw (lv_sub hl [2, 3, 4, 0] rfl)
        · have h := md_ip c122 h
          refine lv_aload_n cx.1 cx.2.1 dX12_asks_125 rfl (lv_at hl 2 rfl) ?_
          refine md_gI (k := 15) cx hw hin12c rfl (by decide) (List.mem_cons_of_mem _ mm_61) dX12_asks_126 ?_
          refine lv_if_ne (tgt := 136) cx.1 cx.2.1 dX12_asks_129 (by decide) (fun c129 => ?_) (fun c129 => ?_)
          · have h := md_in c129 h
            exact J136 p11.2 l1 l2 ((mJ σ 12)) _ _ _ h hw (lv_sub hl [2, 3, 4, 0] rfl)
          · have h := md_ip c129 h
            refine lv_iconst (v := 1) cx.1 cx.2.1 dX12_asks_132 (by decide) ?_
            refine lv_goto (tgt := 137) cx.1 cx.2.1 dX12_asks_133 (by decide) ?_
            exact J137 p11.2 l1 l2 ((mJ σ 12)) 1 _ _ _ h hw (lv_sub hl [2, 3, 4, 0] rfl)
  have J94 : ∀ (σ : md_S) (l1 : Int32) (l2 : Int32) (H : Heap) (locs : List Loc) (ls : Array Slot), f_X12_asks_J94 n σ l1 l2 = some p → hp_w D vwCl (hp_Tl cA) E (hp_A (md_pic cA ad σ0) sz) ss H locs (md_pic cA ad σ) → lv_has ls 8 [(0, .ref (ad 137)), (1, .int l1), (2, .int l2)] → W pp l ee ({ frames := 8, cells := 0, slots := 0, locals := 198 }) ss mm [.ref (ad 137)].toArray bb mt cd H locs 0 0 (MQ bb (hp_Qi D vwCl (hp_Tl cA) sz (md_pic cA ad σ0) (fun r u => r = p.1 ∧ u = md_pic cA ad p.2)) [.ref (ad 137)].toArray ss 0 0 (hp_A (md_pic cA ad σ0) sz)) (F0 mm 94 ls []) := by
    intro σ l1 l2 H locs ls h hw hl
    refine lv_iconst (v := 0) cx.1 cx.2.1 dX12_asks_94 (by decide) ?_
    exact J95 σ l1 l2 0 _ _ _ h hw (lv_sub hl [0, 1, 2] rfl)
  refine lv_aload_n cx.1 cx.2.1 dX12_asks_0 rfl (lv_at hl 0 rfl) ?_
  refine lv_iconst (v := 0) cx.1 cx.2.1 dX12_asks_1 (by decide) ?_
  obtain ⟨σ12, e_σ12, h⟩ := md_ob h
  refine md_pI (k := 0) cx hw hin12c rfl (by decide) rfl (List.mem_cons_of_mem _ mm_0) rfl e_σ12 dX12_asks_2 (fun H locs hw => ?_)
  refine lv_aload_n cx.1 cx.2.1 dX12_asks_5 rfl (lv_at hl 0 rfl) ?_
  refine md_gI (k := 6) cx hw hin12c rfl (by decide) (List.mem_cons_of_mem _ mm_13) dX12_asks_6 ?_
  refine lv_istore_n (lv' := [(1, .int (mI σ12 6)), (0, .ref (ad 137))]) cx.1 cx.2.1 dX12_asks_9 rfl hl (by decide) rfl (fun ls hl => ?_)
  refine lv_aload_n cx.1 cx.2.1 dX12_asks_10 rfl (lv_at hl 1 rfl) ?_
  refine md_gI (k := 7) cx hw hin12c rfl (by decide) (List.mem_cons_of_mem _ mm_14) dX12_asks_11 ?_
  refine lv_istore_n (lv' := [(2, .int (mI σ12 7)), (1, .int (mI σ12 6)), (0, .ref (ad 137))]) cx.1 cx.2.1 dX12_asks_14 rfl hl (by decide) rfl (fun ls hl => ?_)
  refine lv_aload_n cx.1 cx.2.1 dX12_asks_15 rfl (lv_at hl 2 rfl) ?_
  refine lv_aload_n cx.1 cx.2.1 dX12_asks_16 rfl (lv_at hl 2 rfl) ?_
  refine md_gI (k := 2) cx hw hin12c rfl (by decide) (List.mem_cons_of_mem _ mm_1) dX12_asks_17 ?_
  obtain ⟨σ13, e_σ13, h⟩ := md_ob h
  refine md_pI (k := 4) cx hw hin12c rfl (by decide) rfl (List.mem_cons_of_mem _ mm_7) rfl e_σ13 dX12_asks_20 (fun H locs hw => ?_)
  refine lv_iconst (v := 0) cx.1 cx.2.1 dX12_asks_23 (by decide) ?_
  refine lv_istore_n (lv' := [(3, .int 0), (2, .int (mI σ12 7)), (1, .int (mI σ12 6)), (0, .ref (ad 137))]) cx.1 cx.2.1 dX12_asks_24 rfl hl (by decide) rfl (fun ls hl => ?_)
  have L25 : ∀ (j : Nat) (σ : md_S) (l1 : Int32) (l2 : Int32) (l3 : Int32) (q : (md_S × Int32)) (H : Heap) (locs : List Loc) (ls : Array Slot), f_X12_asks_L25 n l1 l2 j σ l3 = some q → hp_w D vwCl (hp_Tl cA) E (hp_A (md_pic cA ad σ0) sz) ss H locs (md_pic cA ad σ) → lv_has ls 8 [(0, .ref (ad 137)), (1, .int l1), (2, .int l2), (3, .int l3)] → (∀ (H : Heap) (locs : List Loc) (ls : Array Slot), hp_w D vwCl (hp_Tl cA) E (hp_A (md_pic cA ad σ0) sz) ss H locs (md_pic cA ad q.1) → lv_has ls 8 [(0, .ref (ad 137)), (1, .int l1), (2, .int l2)] → W pp l ee ({ frames := 8, cells := 0, slots := 0, locals := 198 }) ss mm [.ref (ad 137)].toArray bb mt cd H locs 0 0 (MQ bb (hp_Qi D vwCl (hp_Tl cA) sz (md_pic cA ad σ0) (fun r u => r = p.1 ∧ u = md_pic cA ad p.2)) [.ref (ad 137)].toArray ss 0 0 (hp_A (md_pic cA ad σ0) sz)) (F0 mm 51 ls [])) → W pp l ee ({ frames := 8, cells := 0, slots := 0, locals := 198 }) ss mm [.ref (ad 137)].toArray bb mt cd H locs 0 0 (MQ bb (hp_Qi D vwCl (hp_Tl cA) sz (md_pic cA ad σ0) (fun r u => r = p.1 ∧ u = md_pic cA ad p.2)) [.ref (ad 137)].toArray ss 0 0 (hp_A (md_pic cA ad σ0) sz)) (F0 mm 25 ls []) := by
    intro j
    induction j with
    | zero => intro σ l1 l2 l3 q H locs ls h; exact nomatch h
    | succ j ih =>
      intro σ l1 l2 l3 q H locs ls h hw hl K
      refine lv_iload_n cx.1 cx.2.1 dX12_asks_25 rfl (lv_at hl 3 rfl) ?_
      refine lv_aload_n cx.1 cx.2.1 dX12_asks_26 rfl (lv_at hl 0 rfl) ?_
      refine md_gI (k := 4) cx hw hin12c rfl (by decide) (List.mem_cons_of_mem _ mm_7) dX12_asks_27 ?_
      refine lv_icmp_ge (tgt := 51) cx.1 cx.2.1 dX12_asks_30 (by decide) (fun c30 => ?_) (fun c30 => ?_)
      · have h := md_ip c30 h
        obtain rfl := Option.some.inj h
        exact K _ _ _ hw (lv_sub hl [0, 1, 2] rfl)
      · have h := md_in c30 h
        refine lv_aload_n cx.1 cx.2.1 dX12_asks_33 rfl (lv_at hl 0 rfl) ?_
        refine md_gR (k := 3) cx hw hin12c (by decide) (by decide) (List.mem_cons_of_mem _ mm_8) dX12_asks_34 ?_
        refine lv_iload_n cx.1 cx.2.1 dX12_asks_37 rfl (lv_at hl 3 rfl) ?_
        refine lv_aload_n cx.1 cx.2.1 dX12_asks_38 rfl (lv_at hl 0 rfl) ?_
        refine md_gR (k := 1) cx hw hin12c (by decide) (by decide) (List.mem_cons_of_mem _ mm_2) dX12_asks_39 ?_
        refine lv_iload_n cx.1 cx.2.1 dX12_asks_42 rfl (lv_at hl 3 rfl) ?_
        obtain ⟨v14, e_v14, h⟩ := md_ob h
        refine md_lI (k := 1) hj cx hw (by decide) rfl rfl rfl e_v14 dX12_asks_43 ?_
        obtain ⟨σ15, e_σ15, h⟩ := md_ob h
        refine md_sI (k := 3) hj cx hw (by decide) rfl rfl rfl e_σ15 dX12_asks_44 (fun H locs hw => ?_)
        refine lv_iinc (v := (l3 + 1)) (lv' := [(3, .int (l3 + 1)), (0, .ref (ad 137)), (1, .int l1), (2, .int l2)]) cx.1 cx.2.1 dX12_asks_45 hl (k := 3) rfl rfl (by decide) rfl (fun ls hl => ?_)
        refine lv_goto (tgt := 25) cx.1 cx.2.1 dX12_asks_48 (by decide) ?_
        exact ih σ15 l1 l2 ((l3 + 1)) q _ _ _ h hw (lv_sub hl [1, 2, 3, 0] rfl) K
  obtain ⟨q16, e_q16, h⟩ := md_ob h
  refine L25 n σ13 ((mI σ12 6)) ((mI σ12 7)) 0 q16 _ _ _ e_q16 hw (lv_sub hl [3, 2, 1, 0] rfl) (fun H locs ls hw hl => ?_)
  refine lv_aload_n cx.1 cx.2.1 dX12_asks_51 rfl (lv_at hl 0 rfl) ?_
  refine lv_iconst (v := 0) cx.1 cx.2.1 dX12_asks_52 (by decide) ?_
  obtain ⟨σ17, e_σ17, h⟩ := md_ob h
  refine md_pI (k := 2) cx hw hin12c rfl (by decide) rfl (List.mem_cons_of_mem _ mm_1) rfl e_σ17 dX12_asks_53 (fun H locs hw => ?_)
  refine lv_aload_n cx.1 cx.2.1 dX12_asks_56 rfl (lv_at hl 0 rfl) ?_
  refine lv_iconst (v := 0) cx.1 cx.2.1 dX12_asks_57 (by decide) ?_
  obtain ⟨σ18, e_σ18, h⟩ := md_ob h
  refine md_pI (k := 6) cx hw hin12c rfl (by decide) rfl (List.mem_cons_of_mem _ mm_13) rfl e_σ18 dX12_asks_58 (fun H locs hw => ?_)
  refine lv_aload_n cx.1 cx.2.1 dX12_asks_61 rfl (lv_at hl 0 rfl) ?_
  refine lv_iconst (v := 5) cx.1 cx.2.1 dX12_asks_62 (by decide) ?_
  obtain ⟨σ19, e_σ19, h⟩ := md_ob h
  refine md_pI (k := 16) cx hw hin12c rfl (by decide) rfl (List.mem_cons_of_mem _ mm_62) rfl e_σ19 dX12_asks_63 (fun H locs hw => ?_)
  refine lv_aload_n cx.1 cx.2.1 dX12_asks_66 rfl (lv_at hl 0 rfl) ?_
  refine lv_iconst (v := 0) cx.1 cx.2.1 dX12_asks_67 (by decide) ?_
  obtain ⟨σ20, e_σ20, h⟩ := md_ob h
  refine md_pI (k := 10) cx hw hin12c rfl (by decide) rfl (List.mem_cons_of_mem _ mm_42) rfl e_σ20 dX12_asks_68 (fun H locs hw => ?_)
  refine lv_aload_n cx.1 cx.2.1 dX12_asks_71 rfl (lv_at hl 0 rfl) ?_
  obtain ⟨p21, e_p21, h⟩ := md_ob h
  refine hp_callVv (As := []) (rest := []) cx hw (km_X12_next l D cA E _ ad hj hE n σ20  p21 e_p21) (cwV 0 cx.2.2.2.2.2.1 (md_giV mm_92 mm_93 mm_94 mm_5 mm_95) rfl rfl rfl hd_X12_next ⟨Nat.le_of_ble_eq_true rfl, Nat.le_of_ble_eq_true rfl⟩) md_at0 rfl rfl hl.1 rfl (Nat.le_of_ble_eq_true rfl) dX12_asks_72 ⟨Nat.le_refl _, Nat.le_refl _⟩ (fun u H locs hp hw => ?_)
  obtain rfl := hp
  refine lv_aload_n cx.1 cx.2.1 dX12_asks_75 rfl (lv_at hl 0 rfl) ?_
  obtain ⟨p22, e_p22, h⟩ := md_ob h
  refine hp_callVi (As := []) (rest := []) cx hw (km_X12_isFine l D cA E _ ad hj hE n p21.2  p22 e_p22) (cwV 0 cx.2.2.2.2.2.1 (md_giV mm_64 mm_65 mm_66 mm_5 mm_67) rfl rfl rfl hd_X12_isFine ⟨Nat.le_of_ble_eq_true rfl, Nat.le_of_ble_eq_true rfl⟩) md_at0 rfl rfl hl.1 rfl (Nat.le_of_ble_eq_true rfl) dX12_asks_76 ⟨Nat.le_refl _, Nat.le_refl _⟩ (fun r u H locs hp hw => ?_)
  obtain ⟨rfl, rfl⟩ := hp
  refine lv_if_eq (tgt := 94) cx.1 cx.2.1 dX12_asks_79 (by decide) (fun c79 => ?_) (fun c79 => ?_)
  · have h := md_ip c79 h
    exact J94 p22.2 ((mI σ12 6)) ((mI σ12 7)) _ _ _ h hw (lv_sub hl [0, 1, 2] rfl)
  · have h := md_in c79 h
    refine lv_aload_n cx.1 cx.2.1 dX12_asks_82 rfl (lv_at hl 0 rfl) ?_
    refine md_gI (k := 8) cx hw hin12c rfl (by decide) (List.mem_cons_of_mem _ mm_15) dX12_asks_83 ?_
    refine lv_iconst (v := 1) cx.1 cx.2.1 dX12_asks_86 (by decide) ?_
    refine lv_icmp_ne (tgt := 94) cx.1 cx.2.1 dX12_asks_87 (by decide) (fun c87 => ?_) (fun c87 => ?_)
    · have h := md_in c87 h
      exact J94 p22.2 ((mI σ12 6)) ((mI σ12 7)) _ _ _ h hw (lv_sub hl [0, 1, 2] rfl)
    · have h := md_ip c87 h
      refine lv_iconst (v := 1) cx.1 cx.2.1 dX12_asks_90 (by decide) ?_
      refine lv_goto (tgt := 95) cx.1 cx.2.1 dX12_asks_91 (by decide) ?_
      exact J95 p22.2 ((mI σ12 6)) ((mI σ12 7)) 1 _ _ _ h hw (lv_sub hl [0, 1, 2] rfl)
set_option maxHeartbeats 4000000 in
set_option maxRecDepth 100000 in
theorem km_X12_has (l : Launch) (D : va_G) (cA : Nat → ClassId) (E : hp_N) (sz : Nat) (ad : Nat → Nat) (hj : md_inj ad) (hE : md_E E) (n : Nat) (σ0 : md_S) (a1 : Int32) (a2 : Int32) (p : (Int32 × md_S)) (h : f_X12_has n σ0 a1 a2 = some p) : Met l yX12_has (Cond.code yX12_has cX12_has 4 (some .int) :: v_MOD) ({ frames := 3, cells := 0, slots := 0, locals := 76 }) (hp_Pc D vwCl (hp_Tl cA) E sz (md_pic cA ad σ0) [.ref (ad 137), .int a1, .int a2]) (hp_Qi D vwCl (hp_Tl cA) sz (md_pic cA ad σ0) (fun r u => r = p.1 ∧ u = md_pic cA ad p.2)) 0 0 (hp_A (md_pic cA ad σ0) sz) := by
  refine hp_ofW (cc := cX12_has) (maxL := 4) (ret := (some .int)) (by decide) rfl (Nat.le_of_ble_eq_true rfl) ?_
  intro pp ee ss mm bb mt cd ls cx hsz hw hl
  have hl : lv_has ls 4 [(0, .ref (ad 137)), (1, .int a1), (2, .int a2)] := hl
  have J79 : ∀ (σ : md_S) (t0 : Int32) (H : Heap) (locs : List Loc) (ls : Array Slot), f_X12_has_J79 n σ t0 = some p → hp_w D vwCl (hp_Tl cA) E (hp_A (md_pic cA ad σ0) sz) ss H locs (md_pic cA ad σ) → lv_has ls 4 [] → W pp l ee ({ frames := 3, cells := 0, slots := 0, locals := 76 }) ss mm [.ref (ad 137), .int a1, .int a2].toArray bb mt cd H locs 0 0 (MQ bb (hp_Qi D vwCl (hp_Tl cA) sz (md_pic cA ad σ0) (fun r u => r = p.1 ∧ u = md_pic cA ad p.2)) [.ref (ad 137), .int a1, .int a2].toArray ss 0 0 (hp_A (md_pic cA ad σ0) sz)) (F0 mm 79 ls [.int t0]) := by
    intro σ t0 H locs ls h hw hl
    refine lv_istore_n (lv' := [(3, .int t0)]) cx.1 cx.2.1 dX12_has_79 rfl hl (by decide) rfl (fun ls hl => ?_)
    refine lv_iload_n cx.1 cx.2.1 dX12_has_80 rfl (lv_at hl 0 rfl) ?_
    refine lv_if_eq (tgt := 88) cx.1 cx.2.1 dX12_has_81 (by decide) (fun c81 => ?_) (fun c81 => ?_)
    · have h := md_ip c81 h
      refine lv_iconst (v := 0) cx.1 cx.2.1 dX12_has_88 (by decide) ?_
      exact hp_iret cx hw (md_ret h) dX12_has_89
    · have h := md_in c81 h
      refine lv_iconst (v := 1) cx.1 cx.2.1 dX12_has_84 (by decide) ?_
      refine lv_goto (tgt := 89) cx.1 cx.2.1 dX12_has_85 (by decide) ?_
      exact hp_iret cx hw (md_ret h) dX12_has_89
  have J37 : ∀ (σ : md_S) (l1 : Int32) (l2 : Int32) (t0 : Int32) (t1 : Int64) (t2 : Int64) (H : Heap) (locs : List Loc) (ls : Array Slot), f_X12_has_J37 n σ l1 l2 t0 t1 t2 = some p → hp_w D vwCl (hp_Tl cA) E (hp_A (md_pic cA ad σ0) sz) ss H locs (md_pic cA ad σ) → lv_has ls 4 [(0, .ref (ad 137)), (1, .int l1), (2, .int l2)] → W pp l ee ({ frames := 3, cells := 0, slots := 0, locals := 76 }) ss mm [.ref (ad 137), .int a1, .int a2].toArray bb mt cd H locs 0 0 (MQ bb (hp_Qi D vwCl (hp_Tl cA) sz (md_pic cA ad σ0) (fun r u => r = p.1 ∧ u = md_pic cA ad p.2)) [.ref (ad 137), .int a1, .int a2].toArray ss 0 0 (hp_A (md_pic cA ad σ0) sz)) (F0 mm 37 ls [.int t0, .long t1, .long t2]) := by
    intro σ l1 l2 t0 t1 t2 H locs ls h hw hl
    refine lv_iconst (v := 1) cx.1 cx.2.1 dX12_has_37 (by decide) ?_
    refine lv_isub cx.1 cx.2.1 dX12_has_38 ?_
    refine lv_i2l (v := ((t0 - 1).toInt64)) cx.1 cx.2.1 dX12_has_39 rfl ?_
    obtain ⟨p1, e_p1, h⟩ := md_ob h
    refine hp_callSi (As := [.long t2, .long t1, .long ((t0 - 1).toInt64)]) (rest := []) cx hw (km_X12_in l D cA E _ ad hj hE n σ t2 t1 (((t0 - 1).toInt64)) p1 e_p1) (cwS 3 cx.2.2.2.2.2.1 (md_giS mm_3 mm_4 mm_5 mm_6) rfl rfl rfl hd_X12_in ⟨Nat.le_of_ble_eq_true rfl, Nat.le_of_ble_eq_true rfl⟩) rfl hl.1 rfl (Nat.le_of_ble_eq_true rfl) dX12_has_40 ⟨Nat.le_refl _, Nat.le_refl _⟩ (fun r u H locs hp hw => ?_)
    obtain ⟨rfl, rfl⟩ := hp
    refine lv_if_ne (tgt := 48) cx.1 cx.2.1 dX12_has_43 (by decide) (fun c43 => ?_) (fun c43 => ?_)
    · have h := md_in c43 h
      refine lv_iload_n cx.1 cx.2.1 dX12_has_48 rfl (lv_at hl 2 rfl) ?_
      refine lv_if_eq (tgt := 67) cx.1 cx.2.1 dX12_has_49 (by decide) (fun c49 => ?_) (fun c49 => ?_)
      · have h := md_ip c49 h
        refine lv_aload_n cx.1 cx.2.1 dX12_has_67 rfl (lv_at hl 0 rfl) ?_
        refine lv_iload_n cx.1 cx.2.1 dX12_has_68 rfl (lv_at hl 1 rfl) ?_
        refine lv_aload_n cx.1 cx.2.1 dX12_has_69 rfl (lv_at hl 0 rfl) ?_
        refine md_gJ (k := 82) cx hw hin12c rfl (by decide) (List.mem_cons_of_mem _ mm_492) dX12_has_70 ?_
        refine lv_sipush (v := 264) cx.1 cx.2.1 dX12_has_73 (by decide) ?_
        obtain ⟨p2, e_p2, h⟩ := md_ob h
        refine hp_callVi (As := [.int l1, .long (mJ p1.2 82), .int 264]) (rest := []) cx hw (km_X12_hasDomain l D cA E _ ad hj hE n p1.2 l1 ((mJ p1.2 82)) (264 : Int32) p2 e_p2) (cwV 3 cx.2.2.2.2.2.1 (md_giV mm_494 mm_495 mm_496 mm_5 mm_497) rfl rfl rfl hd_X12_hasDomain ⟨Nat.le_of_ble_eq_true rfl, Nat.le_of_ble_eq_true rfl⟩) md_at0 rfl rfl hl.1 rfl (Nat.le_of_ble_eq_true rfl) dX12_has_76 ⟨Nat.le_refl _, Nat.le_refl _⟩ (fun r u H locs hp hw => ?_)
        obtain ⟨rfl, rfl⟩ := hp
        exact J79 p2.2 (p2.1) _ _ _ h hw (lv_sub hl [] rfl)
      · have h := md_in c49 h
        refine lv_aload_n cx.1 cx.2.1 dX12_has_52 rfl (lv_at hl 0 rfl) ?_
        refine lv_iload_n cx.1 cx.2.1 dX12_has_53 rfl (lv_at hl 1 rfl) ?_
        refine lv_aload_n cx.1 cx.2.1 dX12_has_54 rfl (lv_at hl 0 rfl) ?_
        refine md_gJ (k := 82) cx hw hin12c rfl (by decide) (List.mem_cons_of_mem _ mm_492) dX12_has_55 ?_
        refine lv_sipush (v := 264) cx.1 cx.2.1 dX12_has_58 (by decide) ?_
        obtain ⟨p3, e_p3, h⟩ := md_ob h
        refine hp_callVi (As := [.int l1, .long (mJ p1.2 82), .int 264]) (rest := []) cx hw (km_X12_hasLimit l D cA E _ ad hj hE n p1.2 l1 ((mJ p1.2 82)) (264 : Int32) p3 e_p3) (cwV 3 cx.2.2.2.2.2.1 (md_giV mm_498 mm_499 mm_500 mm_5 mm_501) rfl rfl rfl hd_X12_hasLimit ⟨Nat.le_of_ble_eq_true rfl, Nat.le_of_ble_eq_true rfl⟩) md_at0 rfl rfl hl.1 rfl (Nat.le_of_ble_eq_true rfl) dX12_has_61 ⟨Nat.le_refl _, Nat.le_refl _⟩ (fun r u H locs hp hw => ?_)
        obtain ⟨rfl, rfl⟩ := hp
        refine lv_goto (tgt := 79) cx.1 cx.2.1 dX12_has_64 (by decide) ?_
        exact J79 p3.2 (p3.1) _ _ _ h hw (lv_sub hl [] rfl)
    · have h := md_ip c43 h
      refine lv_iconst (v := (-1)) cx.1 cx.2.1 dX12_has_46 (by decide) ?_
      exact hp_iret cx hw (md_ret h) dX12_has_47
  refine lv_aload_n cx.1 cx.2.1 dX12_has_0 rfl (lv_at hl 0 rfl) ?_
  refine lv_iconst (v := 0) cx.1 cx.2.1 dX12_has_1 (by decide) ?_
  obtain ⟨σ4, e_σ4, h⟩ := md_ob h
  refine md_pI (k := 0) cx hw hin12c rfl (by decide) rfl (List.mem_cons_of_mem _ mm_0) rfl e_σ4 dX12_has_2 (fun H locs hw => ?_)
  refine lv_aload_n cx.1 cx.2.1 dX12_has_5 rfl (lv_at hl 0 rfl) ?_
  refine md_gI (k := 5) cx hw hin12c rfl (by decide) (List.mem_cons_of_mem _ mm_469) dX12_has_6 ?_
  refine lv_if_eq (tgt := 46) cx.1 cx.2.1 dX12_has_9 (by decide) (fun c9 => ?_) (fun c9 => ?_)
  · have h := md_ip c9 h
    refine lv_iconst (v := (-1)) cx.1 cx.2.1 dX12_has_46 (by decide) ?_
    exact hp_iret cx hw (md_ret h) dX12_has_47
  · have h := md_in c9 h
    refine lv_aload_n cx.1 cx.2.1 dX12_has_12 rfl (lv_at hl 0 rfl) ?_
    refine md_gI (k := 81) cx hw hin12c rfl (by decide) (List.mem_cons_of_mem _ mm_493) dX12_has_13 ?_
    refine lv_if_eq (tgt := 46) cx.1 cx.2.1 dX12_has_16 (by decide) (fun c16 => ?_) (fun c16 => ?_)
    · have h := md_ip c16 h
      refine lv_iconst (v := (-1)) cx.1 cx.2.1 dX12_has_46 (by decide) ?_
      exact hp_iret cx hw (md_ret h) dX12_has_47
    · have h := md_in c16 h
      refine lv_iload_n cx.1 cx.2.1 dX12_has_19 rfl (lv_at hl 1 rfl) ?_
      refine lv_i2l (v := (a1.toInt64)) cx.1 cx.2.1 dX12_has_20 rfl ?_
      refine lv_lconst (v := 0) cx.1 cx.2.1 dX12_has_21 (by decide) ?_
      refine lv_iload_n cx.1 cx.2.1 dX12_has_22 rfl (lv_at hl 2 rfl) ?_
      refine lv_if_eq (tgt := 33) cx.1 cx.2.1 dX12_has_23 (by decide) (fun c23 => ?_) (fun c23 => ?_)
      · have h := md_ip c23 h
        refine lv_aload_n cx.1 cx.2.1 dX12_has_33 rfl (lv_at hl 0 rfl) ?_
        refine md_gI (k := 34) cx hw hin12c rfl (by decide) (List.mem_cons_of_mem _ mm_136) dX12_has_34 ?_
        exact J37 σ4 a1 a2 ((mI σ4 34)) 0 ((a1.toInt64)) _ _ _ h hw (lv_sub hl [0, 1, 2] rfl)
      · have h := md_in c23 h
        refine lv_aload_n cx.1 cx.2.1 dX12_has_26 rfl (lv_at hl 0 rfl) ?_
        refine md_gI (k := 22) cx hw hin12c rfl (by decide) (List.mem_cons_of_mem _ mm_326) dX12_has_27 ?_
        refine lv_goto (tgt := 37) cx.1 cx.2.1 dX12_has_30 (by decide) ?_
        exact J37 σ4 a1 a2 ((mI σ4 22)) 0 ((a1.toInt64)) _ _ _ h hw (lv_sub hl [0, 1, 2] rfl)
set_option maxHeartbeats 4000000 in
set_option maxRecDepth 100000 in
theorem km_X12_own (l : Launch) (D : va_G) (cA : Nat → ClassId) (E : hp_N) (sz : Nat) (ad : Nat → Nat) (hj : md_inj ad) (hE : md_E E) (n : Nat) (σ0 : md_S) (a1 : Int32) (p : (Int32 × md_S)) (h : f_X12_own n σ0 a1 = some p) : Met l yX12_own (Cond.code yX12_own cX12_own 2 (some .boolean) :: v_MOD) ({ frames := 0, cells := 0, slots := 0, locals := 0 }) (hp_Pc D vwCl (hp_Tl cA) E sz (md_pic cA ad σ0) [.ref (ad 137), .int a1]) (hp_Qi D vwCl (hp_Tl cA) sz (md_pic cA ad σ0) (fun r u => r = p.1 ∧ u = md_pic cA ad p.2)) 0 0 (hp_A (md_pic cA ad σ0) sz) := by
  refine hp_ofW (cc := cX12_own) (maxL := 2) (ret := (some .boolean)) (by decide) rfl (Nat.le_of_ble_eq_true rfl) ?_
  intro pp ee ss mm bb mt cd ls cx hsz hw hl
  have hl : lv_has ls 2 [(0, .ref (ad 137)), (1, .int a1)] := hl
  refine lv_aload_n cx.1 cx.2.1 dX12_own_0 rfl (lv_at hl 0 rfl) ?_
  refine md_gI (k := 85) cx hw hin12c rfl (by decide) (List.mem_cons_of_mem _ mm_502) dX12_own_1 ?_
  refine lv_aload_n cx.1 cx.2.1 dX12_own_4 rfl (lv_at hl 0 rfl) ?_
  refine md_gR (k := 32) cx hw hin12c (by decide) (by decide) (List.mem_cons_of_mem _ mm_138) dX12_own_5 ?_
  refine lv_aload_n cx.1 cx.2.1 dX12_own_8 rfl (lv_at hl 0 rfl) ?_
  refine md_gR (k := 37) cx hw hin12c (by decide) (by decide) (List.mem_cons_of_mem _ mm_243) dX12_own_9 ?_
  refine lv_iload_n cx.1 cx.2.1 dX12_own_12 rfl (lv_at hl 1 rfl) ?_
  obtain ⟨v1, e_v1, h⟩ := md_ob h
  refine md_lI (k := 37) hj cx hw (by decide) rfl rfl rfl e_v1 dX12_own_13 ?_
  obtain ⟨v2, e_v2, h⟩ := md_ob h
  refine md_lI (k := 32) hj cx hw (by decide) rfl rfl rfl e_v2 dX12_own_14 ?_
  refine lv_ishr cx.1 cx.2.1 dX12_own_15 ?_
  refine lv_iconst (v := 1) cx.1 cx.2.1 dX12_own_16 (by decide) ?_
  refine lv_iand cx.1 cx.2.1 dX12_own_17 ?_
  refine lv_iconst (v := 1) cx.1 cx.2.1 dX12_own_18 (by decide) ?_
  refine lv_icmp_ne (tgt := 26) cx.1 cx.2.1 dX12_own_19 (by decide) (fun c19 => ?_) (fun c19 => ?_)
  · have h := md_in c19 h
    refine lv_iconst (v := 0) cx.1 cx.2.1 dX12_own_26 (by decide) ?_
    exact hp_zret cx hw (md_ret h) (by decide) dX12_own_27
  · have h := md_ip c19 h
    refine lv_iconst (v := 1) cx.1 cx.2.1 dX12_own_22 (by decide) ?_
    refine lv_goto (tgt := 27) cx.1 cx.2.1 dX12_own_23 (by decide) ?_
    exact hp_zret cx hw (md_ret h) (by decide) dX12_own_27
set_option maxHeartbeats 4000000 in
set_option maxRecDepth 100000 in
theorem km_X12_adds (l : Launch) (D : va_G) (cA : Nat → ClassId) (E : hp_N) (sz : Nat) (ad : Nat → Nat) (hj : md_inj ad) (hE : md_E E) (n : Nat) (σ0 : md_S) (a1 : Int32) (a2 : Int32) (p : (Int32 × md_S)) (h : f_X12_adds n σ0 a1 a2 = some p) : Met l yX12_adds (Cond.code yX12_adds cX12_adds 5 (some .boolean) :: v_MOD) ({ frames := 0, cells := 0, slots := 0, locals := 0 }) (hp_Pc D vwCl (hp_Tl cA) E sz (md_pic cA ad σ0) [.ref (ad 137), .int a1, .int a2]) (hp_Qi D vwCl (hp_Tl cA) sz (md_pic cA ad σ0) (fun r u => r = p.1 ∧ u = md_pic cA ad p.2)) 0 0 (hp_A (md_pic cA ad σ0) sz) := by
  refine hp_ofW (cc := cX12_adds) (maxL := 5) (ret := (some .boolean)) (by decide) rfl (Nat.le_of_ble_eq_true rfl) ?_
  intro pp ee ss mm bb mt cd ls cx hsz hw hl
  have hl : lv_has ls 5 [(0, .ref (ad 137)), (1, .int a1), (2, .int a2)] := hl
  have J26 : ∀ (σ : md_S) (l1 : Int32) (l3 : Int32) (t0 : Int32) (H : Heap) (locs : List Loc) (ls : Array Slot), f_X12_adds_J26 n σ l1 l3 t0 = some p → hp_w D vwCl (hp_Tl cA) E (hp_A (md_pic cA ad σ0) sz) ss H locs (md_pic cA ad σ) → lv_has ls 5 [(0, .ref (ad 137)), (1, .int l1), (3, .int l3)] → W pp l ee ({ frames := 0, cells := 0, slots := 0, locals := 0 }) ss mm [.ref (ad 137), .int a1, .int a2].toArray bb mt cd H locs 0 0 (MQ bb (hp_Qi D vwCl (hp_Tl cA) sz (md_pic cA ad σ0) (fun r u => r = p.1 ∧ u = md_pic cA ad p.2)) [.ref (ad 137), .int a1, .int a2].toArray ss 0 0 (hp_A (md_pic cA ad σ0) sz)) (F0 mm 26 ls [.int t0]) := by
    intro σ l1 l3 t0 H locs ls h hw hl
    refine lv_istore (lv' := [(4, .int t0), (0, .ref (ad 137)), (1, .int l1), (3, .int l3)]) cx.1 cx.2.1 dX12_adds_26 hl (by decide) rfl (fun ls hl => ?_)
    refine lv_aload_n cx.1 cx.2.1 dX12_adds_28 rfl (lv_at hl 1 rfl) ?_
    refine md_gR (k := 83) cx hw hin12c (by decide) (by decide) (List.mem_cons_of_mem _ mm_503) dX12_adds_29 ?_
    refine lv_iload_n cx.1 cx.2.1 dX12_adds_32 rfl (lv_at hl 2 rfl) ?_
    refine lv_dup2_11 cx.1 cx.2.1 dX12_adds_33 rfl rfl ?_
    obtain ⟨v1, e_v1, h⟩ := md_ob h
    refine md_lI (k := 83) hj cx hw (by decide) rfl rfl rfl e_v1 dX12_adds_34 ?_
    refine lv_iload_n cx.1 cx.2.1 dX12_adds_35 rfl (lv_at hl 3 rfl) ?_
    refine lv_ior cx.1 cx.2.1 dX12_adds_36 ?_
    obtain ⟨σ2, e_σ2, h⟩ := md_ob h
    refine md_sI (k := 83) hj cx hw (by decide) rfl rfl rfl e_σ2 dX12_adds_37 (fun H locs hw => ?_)
    refine lv_iload cx.1 cx.2.1 dX12_adds_38 (lv_at hl 0 rfl) ?_
    obtain ⟨z3, e_z3, h⟩ := md_ob h
    rw [(md_zbs e_z3).1] at h
    exact hp_zret cx hw (md_ret h) (md_nbn (md_zbs e_z3).2) dX12_adds_40
  have J9 : ∀ (σ : md_S) (l1 : Int32) (t0 : Int32) (H : Heap) (locs : List Loc) (ls : Array Slot), f_X12_adds_J9 n σ l1 t0 = some p → hp_w D vwCl (hp_Tl cA) E (hp_A (md_pic cA ad σ0) sz) ss H locs (md_pic cA ad σ) → lv_has ls 5 [(0, .ref (ad 137)), (1, .int l1)] → W pp l ee ({ frames := 0, cells := 0, slots := 0, locals := 0 }) ss mm [.ref (ad 137), .int a1, .int a2].toArray bb mt cd H locs 0 0 (MQ bb (hp_Qi D vwCl (hp_Tl cA) sz (md_pic cA ad σ0) (fun r u => r = p.1 ∧ u = md_pic cA ad p.2)) [.ref (ad 137), .int a1, .int a2].toArray ss 0 0 (hp_A (md_pic cA ad σ0) sz)) (F0 mm 9 ls [.int t0]) := by
    intro σ l1 t0 H locs ls h hw hl
    refine lv_istore_n (lv' := [(3, .int t0), (0, .ref (ad 137)), (1, .int l1)]) cx.1 cx.2.1 dX12_adds_9 rfl hl (by decide) rfl (fun ls hl => ?_)
    refine lv_aload_n cx.1 cx.2.1 dX12_adds_10 rfl (lv_at hl 1 rfl) ?_
    refine md_gR (k := 83) cx hw hin12c (by decide) (by decide) (List.mem_cons_of_mem _ mm_503) dX12_adds_11 ?_
    refine lv_iload_n cx.1 cx.2.1 dX12_adds_14 rfl (lv_at hl 2 rfl) ?_
    obtain ⟨v4, e_v4, h⟩ := md_ob h
    refine md_lI (k := 83) hj cx hw (by decide) rfl rfl rfl e_v4 dX12_adds_15 ?_
    refine lv_iload_n cx.1 cx.2.1 dX12_adds_16 rfl (lv_at hl 0 rfl) ?_
    refine lv_iand cx.1 cx.2.1 dX12_adds_17 ?_
    refine lv_if_ne (tgt := 25) cx.1 cx.2.1 dX12_adds_18 (by decide) (fun c18 => ?_) (fun c18 => ?_)
    · have h := md_in c18 h
      refine lv_iconst (v := 0) cx.1 cx.2.1 dX12_adds_25 (by decide) ?_
      exact J26 σ l1 t0 0 _ _ _ h hw (lv_sub hl [1, 2, 0] rfl)
    · have h := md_ip c18 h
      refine lv_iconst (v := 1) cx.1 cx.2.1 dX12_adds_21 (by decide) ?_
      refine lv_goto (tgt := 26) cx.1 cx.2.1 dX12_adds_22 (by decide) ?_
      exact J26 σ l1 t0 1 _ _ _ h hw (lv_sub hl [1, 2, 0] rfl)
  refine lv_iload_n cx.1 cx.2.1 dX12_adds_0 rfl (lv_at hl 2 rfl) ?_
  refine lv_if_eq (tgt := 8) cx.1 cx.2.1 dX12_adds_1 (by decide) (fun c1 => ?_) (fun c1 => ?_)
  · have h := md_ip c1 h
    refine lv_iconst (v := 2) cx.1 cx.2.1 dX12_adds_8 (by decide) ?_
    exact J9 σ0 a1 2 _ _ _ h hw (lv_sub hl [0, 1] rfl)
  · have h := md_in c1 h
    refine lv_iconst (v := 1) cx.1 cx.2.1 dX12_adds_4 (by decide) ?_
    refine lv_goto (tgt := 9) cx.1 cx.2.1 dX12_adds_5 (by decide) ?_
    exact J9 σ0 a1 1 _ _ _ h hw (lv_sub hl [0, 1] rfl)
set_option maxHeartbeats 4000000 in
set_option maxRecDepth 100000 in
theorem km_X12_goesOn (l : Launch) (D : va_G) (cA : Nat → ClassId) (E : hp_N) (sz : Nat) (ad : Nat → Nat) (hj : md_inj ad) (hE : md_E E) (n : Nat) (σ0 : md_S) (a1 : Int32) (a2 : Int32) (p : (Int32 × md_S)) (h : f_X12_goesOn n σ0 a1 a2 = some p) : Met l yX12_goesOn (Cond.code yX12_goesOn cX12_goesOn 7 (some .boolean) :: v_MOD) ({ frames := 1, cells := 0, slots := 0, locals := 24 }) (hp_Pc D vwCl (hp_Tl cA) E sz (md_pic cA ad σ0) [.ref (ad 137), .int a1, .int a2]) (hp_Qi D vwCl (hp_Tl cA) sz (md_pic cA ad σ0) (fun r u => r = p.1 ∧ u = md_pic cA ad p.2)) 0 0 (hp_A (md_pic cA ad σ0) sz) := by
  refine hp_ofW (cc := cX12_goesOn) (maxL := 7) (ret := (some .boolean)) (by decide) rfl (Nat.le_of_ble_eq_true rfl) ?_
  intro pp ee ss mm bb mt cd ls cx hsz hw hl
  have hl : lv_has ls 7 [(0, .ref (ad 137)), (1, .int a1), (2, .int a2)] := hl
  have J305 : ∀ (σ : md_S) (t0 : Int32) (t1 : Int32) (H : Heap) (locs : List Loc) (ls : Array Slot), f_X12_goesOn_J305 n σ t0 t1 = some p → hp_w D vwCl (hp_Tl cA) E (hp_A (md_pic cA ad σ0) sz) ss H locs (md_pic cA ad σ) → lv_has ls 7 [] → W pp l ee ({ frames := 1, cells := 0, slots := 0, locals := 24 }) ss mm [.ref (ad 137), .int a1, .int a2].toArray bb mt cd H locs 0 0 (MQ bb (hp_Qi D vwCl (hp_Tl cA) sz (md_pic cA ad σ0) (fun r u => r = p.1 ∧ u = md_pic cA ad p.2)) [.ref (ad 137), .int a1, .int a2].toArray ss 0 0 (hp_A (md_pic cA ad σ0) sz)) (F0 mm 305 ls [.int t0, .int t1, .ref (ad 137)]) := by
    intro σ t0 t1 H locs ls h hw hl
    obtain ⟨p1, e_p1, h⟩ := md_ob h
    refine hp_callVi (As := [.int t1, .int t0]) (rest := []) cx hw (km_X12_adds l D cA E _ ad hj hE n σ t1 t0 p1 e_p1) (cwV 2 cx.2.2.2.2.2.1 (md_giV mm_509 mm_510 mm_511 mm_5 mm_512) rfl rfl rfl hd_X12_adds ⟨Nat.le_of_ble_eq_true rfl, Nat.le_of_ble_eq_true rfl⟩) md_at0 rfl rfl hl.1 rfl (Nat.le_of_ble_eq_true rfl) dX12_goesOn_305 ⟨Nat.le_refl _, Nat.le_refl _⟩ (fun r u H locs hp hw => ?_)
    obtain ⟨rfl, rfl⟩ := hp
    refine lv_istore (lv' := [(4, .int p1.1)]) cx.1 cx.2.1 dX12_goesOn_308 hl (by decide) rfl (fun ls hl => ?_)
    refine lv_iload cx.1 cx.2.1 dX12_goesOn_310 (lv_at hl 0 rfl) ?_
    obtain ⟨z2, e_z2, h⟩ := md_ob h
    rw [(md_zbs e_z2).1] at h
    exact hp_zret cx hw (md_ret h) (md_nbn (md_zbs e_z2).2) dX12_goesOn_312
  have J304 : ∀ (σ : md_S) (t0 : Int32) (H : Heap) (locs : List Loc) (ls : Array Slot), f_X12_goesOn_J304 n σ t0 = some p → hp_w D vwCl (hp_Tl cA) E (hp_A (md_pic cA ad σ0) sz) ss H locs (md_pic cA ad σ) → lv_has ls 7 [] → W pp l ee ({ frames := 1, cells := 0, slots := 0, locals := 24 }) ss mm [.ref (ad 137), .int a1, .int a2].toArray bb mt cd H locs 0 0 (MQ bb (hp_Qi D vwCl (hp_Tl cA) sz (md_pic cA ad σ0) (fun r u => r = p.1 ∧ u = md_pic cA ad p.2)) [.ref (ad 137), .int a1, .int a2].toArray ss 0 0 (hp_A (md_pic cA ad σ0) sz)) (F0 mm 304 ls [.int t0, .ref (ad 137)]) := by
    intro σ t0 H locs ls h hw hl
    refine lv_iconst (v := 0) cx.1 cx.2.1 dX12_goesOn_304 (by decide) ?_
    exact J305 σ 0 t0 _ _ _ h hw (lv_sub hl [] rfl)
  have J281 : ∀ (σ : md_S) (l5 : Int32) (t0 : Int32) (H : Heap) (locs : List Loc) (ls : Array Slot), f_X12_goesOn_J281 n σ l5 t0 = some p → hp_w D vwCl (hp_Tl cA) E (hp_A (md_pic cA ad σ0) sz) ss H locs (md_pic cA ad σ) → lv_has ls 7 [(0, .ref (ad 137)), (5, .int l5)] → W pp l ee ({ frames := 1, cells := 0, slots := 0, locals := 24 }) ss mm [.ref (ad 137), .int a1, .int a2].toArray bb mt cd H locs 0 0 (MQ bb (hp_Qi D vwCl (hp_Tl cA) sz (md_pic cA ad σ0) (fun r u => r = p.1 ∧ u = md_pic cA ad p.2)) [.ref (ad 137), .int a1, .int a2].toArray ss 0 0 (hp_A (md_pic cA ad σ0) sz)) (F0 mm 281 ls [.int t0]) := by
    intro σ l5 t0 H locs ls h hw hl
    refine lv_istore (lv' := [(6, .int t0), (0, .ref (ad 137)), (5, .int l5)]) cx.1 cx.2.1 dX12_goesOn_281 hl (by decide) rfl (fun ls hl => ?_)
    refine lv_aload_n cx.1 cx.2.1 dX12_goesOn_283 rfl (lv_at hl 1 rfl) ?_
    refine lv_iload cx.1 cx.2.1 dX12_goesOn_284 (lv_at hl 2 rfl) ?_
    refine lv_iload cx.1 cx.2.1 dX12_goesOn_286 (lv_at hl 0 rfl) ?_
    refine lv_if_eq (tgt := 304) cx.1 cx.2.1 dX12_goesOn_288 (by decide) (fun c288 => ?_) (fun c288 => ?_)
    · have h := md_ip c288 h
      exact J304 σ l5 _ _ _ h hw (lv_sub hl [] rfl)
    · have h := md_in c288 h
      refine lv_aload_n cx.1 cx.2.1 dX12_goesOn_291 rfl (lv_at hl 1 rfl) ?_
      refine lv_iload cx.1 cx.2.1 dX12_goesOn_292 (lv_at hl 2 rfl) ?_
      obtain ⟨p3, e_p3, h⟩ := md_ob h
      refine hp_callVi (As := [.int l5]) (rest := [.int l5, .ref (ad 137)]) cx hw (km_X12_own l D cA E _ ad hj hE n σ l5 p3 e_p3) (cwV 1 cx.2.2.2.2.2.1 (md_giV mm_505 mm_506 mm_507 mm_5 mm_508) rfl rfl rfl hd_X12_own ⟨Nat.le_of_ble_eq_true rfl, Nat.le_of_ble_eq_true rfl⟩) md_at0 rfl rfl hl.1 rfl (Nat.le_of_ble_eq_true rfl) dX12_goesOn_294 ⟨Nat.le_refl _, Nat.le_refl _⟩ (fun r u H locs hp hw => ?_)
      obtain ⟨rfl, rfl⟩ := hp
      refine lv_if_eq (tgt := 304) cx.1 cx.2.1 dX12_goesOn_297 (by decide) (fun c297 => ?_) (fun c297 => ?_)
      · have h := md_ip c297 h
        exact J304 p3.2 l5 _ _ _ h hw (lv_sub hl [] rfl)
      · have h := md_in c297 h
        refine lv_iconst (v := 1) cx.1 cx.2.1 dX12_goesOn_300 (by decide) ?_
        refine lv_goto (tgt := 305) cx.1 cx.2.1 dX12_goesOn_301 (by decide) ?_
        exact J305 p3.2 1 l5 _ _ _ h hw (lv_sub hl [] rfl)
  have J276 : ∀ (σ : md_S) (l5 : Int32) (H : Heap) (locs : List Loc) (ls : Array Slot), f_X12_goesOn_J276 n σ l5 = some p → hp_w D vwCl (hp_Tl cA) E (hp_A (md_pic cA ad σ0) sz) ss H locs (md_pic cA ad σ) → lv_has ls 7 [(0, .ref (ad 137)), (5, .int l5)] → W pp l ee ({ frames := 1, cells := 0, slots := 0, locals := 24 }) ss mm [.ref (ad 137), .int a1, .int a2].toArray bb mt cd H locs 0 0 (MQ bb (hp_Qi D vwCl (hp_Tl cA) sz (md_pic cA ad σ0) (fun r u => r = p.1 ∧ u = md_pic cA ad p.2)) [.ref (ad 137), .int a1, .int a2].toArray ss 0 0 (hp_A (md_pic cA ad σ0) sz)) (F0 mm 276 ls []) := by
    intro σ l5 H locs ls h hw hl
    refine lv_iconst (v := 1) cx.1 cx.2.1 dX12_goesOn_276 (by decide) ?_
    refine lv_goto (tgt := 281) cx.1 cx.2.1 dX12_goesOn_277 (by decide) ?_
    exact J281 σ l5 1 _ _ _ h hw (lv_sub hl [0, 1] rfl)
  have J130 : ∀ (σ : md_S) (l5 : Int32) (t0 : Int32) (H : Heap) (locs : List Loc) (ls : Array Slot), f_X12_goesOn_J130 n σ l5 t0 = some p → hp_w D vwCl (hp_Tl cA) E (hp_A (md_pic cA ad σ0) sz) ss H locs (md_pic cA ad σ) → lv_has ls 7 [(0, .ref (ad 137)), (5, .int l5)] → W pp l ee ({ frames := 1, cells := 0, slots := 0, locals := 24 }) ss mm [.ref (ad 137), .int a1, .int a2].toArray bb mt cd H locs 0 0 (MQ bb (hp_Qi D vwCl (hp_Tl cA) sz (md_pic cA ad σ0) (fun r u => r = p.1 ∧ u = md_pic cA ad p.2)) [.ref (ad 137), .int a1, .int a2].toArray ss 0 0 (hp_A (md_pic cA ad σ0) sz)) (F0 mm 130 ls [.int t0]) := by
    intro σ l5 t0 H locs ls h hw hl
    refine lv_istore (lv' := [(4, .int t0), (0, .ref (ad 137)), (5, .int l5)]) cx.1 cx.2.1 dX12_goesOn_130 hl (by decide) rfl (fun ls hl => ?_)
    refine lv_aload_n cx.1 cx.2.1 dX12_goesOn_132 rfl (lv_at hl 1 rfl) ?_
    refine lv_dup cx.1 cx.2.1 dX12_goesOn_133 rfl ?_
    refine md_gI (k := 84) cx hw hin12c rfl (by decide) (List.mem_cons_of_mem _ mm_504) dX12_goesOn_134 ?_
    refine lv_iload cx.1 cx.2.1 dX12_goesOn_137 (lv_at hl 2 rfl) ?_
    refine lv_ior cx.1 cx.2.1 dX12_goesOn_139 ?_
    obtain ⟨σ4, e_σ4, h⟩ := md_ob h
    refine md_pI (k := 84) cx hw hin12c rfl (by decide) rfl (List.mem_cons_of_mem _ mm_504) rfl e_σ4 dX12_goesOn_140 (fun H locs hw => ?_)
    refine lv_goto (tgt := 310) cx.1 cx.2.1 dX12_goesOn_143 (by decide) ?_
    refine lv_iload cx.1 cx.2.1 dX12_goesOn_310 (lv_at hl 0 rfl) ?_
    obtain ⟨z5, e_z5, h⟩ := md_ob h
    rw [(md_zbs e_z5).1] at h
    exact hp_zret cx hw (md_ret h) (md_nbn (md_zbs e_z5).2) dX12_goesOn_312
  have J113 : ∀ (σ : md_S) (t0 : Int32) (H : Heap) (locs : List Loc) (ls : Array Slot), f_X12_goesOn_J113 n σ t0 = some p → hp_w D vwCl (hp_Tl cA) E (hp_A (md_pic cA ad σ0) sz) ss H locs (md_pic cA ad σ) → lv_has ls 7 [(0, .ref (ad 137))] → W pp l ee ({ frames := 1, cells := 0, slots := 0, locals := 24 }) ss mm [.ref (ad 137), .int a1, .int a2].toArray bb mt cd H locs 0 0 (MQ bb (hp_Qi D vwCl (hp_Tl cA) sz (md_pic cA ad σ0) (fun r u => r = p.1 ∧ u = md_pic cA ad p.2)) [.ref (ad 137), .int a1, .int a2].toArray ss 0 0 (hp_A (md_pic cA ad σ0) sz)) (F0 mm 113 ls [.int t0]) := by
    intro σ t0 H locs ls h hw hl
    refine lv_istore (lv' := [(5, .int t0), (0, .ref (ad 137))]) cx.1 cx.2.1 dX12_goesOn_113 hl (by decide) rfl (fun ls hl => ?_)
    refine lv_aload_n cx.1 cx.2.1 dX12_goesOn_115 rfl (lv_at hl 1 rfl) ?_
    refine md_gI (k := 84) cx hw hin12c rfl (by decide) (List.mem_cons_of_mem _ mm_504) dX12_goesOn_116 ?_
    refine lv_iload cx.1 cx.2.1 dX12_goesOn_119 (lv_at hl 0 rfl) ?_
    refine lv_iand cx.1 cx.2.1 dX12_goesOn_121 ?_
    refine lv_if_ne (tgt := 129) cx.1 cx.2.1 dX12_goesOn_122 (by decide) (fun c122 => ?_) (fun c122 => ?_)
    · have h := md_in c122 h
      refine lv_iconst (v := 0) cx.1 cx.2.1 dX12_goesOn_129 (by decide) ?_
      exact J130 σ t0 0 _ _ _ h hw (lv_sub hl [1, 0] rfl)
    · have h := md_ip c122 h
      refine lv_iconst (v := 1) cx.1 cx.2.1 dX12_goesOn_125 (by decide) ?_
      refine lv_goto (tgt := 130) cx.1 cx.2.1 dX12_goesOn_126 (by decide) ?_
      exact J130 σ t0 1 _ _ _ h hw (lv_sub hl [1, 0] rfl)
  have J28 : ∀ (σ : md_S) (l1 : Int32) (l2 : Int32) (l4 : Int32) (H : Heap) (locs : List Loc) (ls : Array Slot), f_X12_goesOn_J28 n σ l1 l2 l4 = some p → hp_w D vwCl (hp_Tl cA) E (hp_A (md_pic cA ad σ0) sz) ss H locs (md_pic cA ad σ) → lv_has ls 7 [(0, .ref (ad 137)), (1, .int l1), (2, .int l2), (4, .int l4)] → W pp l ee ({ frames := 1, cells := 0, slots := 0, locals := 24 }) ss mm [.ref (ad 137), .int a1, .int a2].toArray bb mt cd H locs 0 0 (MQ bb (hp_Qi D vwCl (hp_Tl cA) sz (md_pic cA ad σ0) (fun r u => r = p.1 ∧ u = md_pic cA ad p.2)) [.ref (ad 137), .int a1, .int a2].toArray ss 0 0 (hp_A (md_pic cA ad σ0) sz)) (F0 mm 28 ls []) := by
    intro σ l1 l2 l4 H locs ls h hw hl
    refine lv_iconst (v := 0) cx.1 cx.2.1 dX12_goesOn_28 (by decide) ?_
    refine lv_istore (lv' := [(5, .int 0), (0, .ref (ad 137)), (1, .int l1), (2, .int l2), (4, .int l4)]) cx.1 cx.2.1 dX12_goesOn_29 hl (by decide) rfl (fun ls hl => ?_)
    have L31 : ∀ (j : Nat) (σ : md_S) (l1 : Int32) (l2 : Int32) (l4 : Int32) (l5 : Int32) (q : (md_S × Int32 × Int32)) (H : Heap) (locs : List Loc) (ls : Array Slot), f_X12_goesOn_L31 n l1 l2 j σ l4 l5 = some q → hp_w D vwCl (hp_Tl cA) E (hp_A (md_pic cA ad σ0) sz) ss H locs (md_pic cA ad σ) → lv_has ls 7 [(0, .ref (ad 137)), (1, .int l1), (2, .int l2), (4, .int l4), (5, .int l5)] → (∀ (H : Heap) (locs : List Loc) (ls : Array Slot), hp_w D vwCl (hp_Tl cA) E (hp_A (md_pic cA ad σ0) sz) ss H locs (md_pic cA ad q.1) → lv_has ls 7 [(4, .int q.2.1)] → W pp l ee ({ frames := 1, cells := 0, slots := 0, locals := 24 }) ss mm [.ref (ad 137), .int a1, .int a2].toArray bb mt cd H locs 0 0 (MQ bb (hp_Qi D vwCl (hp_Tl cA) sz (md_pic cA ad σ0) (fun r u => r = p.1 ∧ u = md_pic cA ad p.2)) [.ref (ad 137), .int a1, .int a2].toArray ss 0 0 (hp_A (md_pic cA ad σ0) sz)) (F0 mm 95 ls [])) → W pp l ee ({ frames := 1, cells := 0, slots := 0, locals := 24 }) ss mm [.ref (ad 137), .int a1, .int a2].toArray bb mt cd H locs 0 0 (MQ bb (hp_Qi D vwCl (hp_Tl cA) sz (md_pic cA ad σ0) (fun r u => r = p.1 ∧ u = md_pic cA ad p.2)) [.ref (ad 137), .int a1, .int a2].toArray ss 0 0 (hp_A (md_pic cA ad σ0) sz)) (F0 mm 31 ls []) := by
      intro j
      induction j with
      | zero => intro σ l1 l2 l4 l5 q H locs ls h; exact nomatch h
      | succ j ih =>
        intro σ l1 l2 l4 l5 q H locs ls h hw hl K
        have J89 : ∀ (σ : md_S) (l4 : Int32) (l5 : Int32) (H : Heap) (locs : List Loc) (ls : Array Slot), f_X12_goesOn_J89 n l1 l2 (f_X12_goesOn_L31 n l1 l2 j) σ l4 l5 = some q → hp_w D vwCl (hp_Tl cA) E (hp_A (md_pic cA ad σ0) sz) ss H locs (md_pic cA ad σ) → lv_has ls 7 [(0, .ref (ad 137)), (1, .int l1), (2, .int l2), (4, .int l4), (5, .int l5)] → W pp l ee ({ frames := 1, cells := 0, slots := 0, locals := 24 }) ss mm [.ref (ad 137), .int a1, .int a2].toArray bb mt cd H locs 0 0 (MQ bb (hp_Qi D vwCl (hp_Tl cA) sz (md_pic cA ad σ0) (fun r u => r = p.1 ∧ u = md_pic cA ad p.2)) [.ref (ad 137), .int a1, .int a2].toArray ss 0 0 (hp_A (md_pic cA ad σ0) sz)) (F0 mm 89 ls []) := by
          intro σ l4 l5 H locs ls h hw hl
          refine lv_iinc (v := (l5 + 1)) (lv' := [(5, .int (l5 + 1)), (0, .ref (ad 137)), (1, .int l1), (2, .int l2), (4, .int l4)]) cx.1 cx.2.1 dX12_goesOn_89 hl (k := 4) rfl rfl (by decide) rfl (fun ls hl => ?_)
          refine lv_goto (tgt := 31) cx.1 cx.2.1 dX12_goesOn_92 (by decide) ?_
          exact ih σ l1 l2 l4 ((l5 + 1)) q _ _ _ h hw (lv_sub hl [1, 2, 3, 4, 0] rfl) K
        have J87 : ∀ (σ : md_S) (l5 : Int32) (t0 : Int32) (H : Heap) (locs : List Loc) (ls : Array Slot), f_X12_goesOn_J87 n l1 l2 (f_X12_goesOn_L31 n l1 l2 j) σ l5 t0 = some q → hp_w D vwCl (hp_Tl cA) E (hp_A (md_pic cA ad σ0) sz) ss H locs (md_pic cA ad σ) → lv_has ls 7 [(0, .ref (ad 137)), (1, .int l1), (2, .int l2), (5, .int l5)] → W pp l ee ({ frames := 1, cells := 0, slots := 0, locals := 24 }) ss mm [.ref (ad 137), .int a1, .int a2].toArray bb mt cd H locs 0 0 (MQ bb (hp_Qi D vwCl (hp_Tl cA) sz (md_pic cA ad σ0) (fun r u => r = p.1 ∧ u = md_pic cA ad p.2)) [.ref (ad 137), .int a1, .int a2].toArray ss 0 0 (hp_A (md_pic cA ad σ0) sz)) (F0 mm 87 ls [.int t0]) := by
          intro σ l5 t0 H locs ls h hw hl
          refine lv_istore (lv' := [(4, .int t0), (0, .ref (ad 137)), (1, .int l1), (2, .int l2), (5, .int l5)]) cx.1 cx.2.1 dX12_goesOn_87 hl (by decide) rfl (fun ls hl => ?_)
          exact J89 σ t0 l5 _ _ _ h hw (lv_sub hl [1, 2, 3, 0, 4] rfl)
        have J82 : ∀ (σ : md_S) (l5 : Int32) (H : Heap) (locs : List Loc) (ls : Array Slot), f_X12_goesOn_J82 n l1 l2 (f_X12_goesOn_L31 n l1 l2 j) σ l5 = some q → hp_w D vwCl (hp_Tl cA) E (hp_A (md_pic cA ad σ0) sz) ss H locs (md_pic cA ad σ) → lv_has ls 7 [(0, .ref (ad 137)), (1, .int l1), (2, .int l2), (5, .int l5)] → W pp l ee ({ frames := 1, cells := 0, slots := 0, locals := 24 }) ss mm [.ref (ad 137), .int a1, .int a2].toArray bb mt cd H locs 0 0 (MQ bb (hp_Qi D vwCl (hp_Tl cA) sz (md_pic cA ad σ0) (fun r u => r = p.1 ∧ u = md_pic cA ad p.2)) [.ref (ad 137), .int a1, .int a2].toArray ss 0 0 (hp_A (md_pic cA ad σ0) sz)) (F0 mm 82 ls []) := by
          intro σ l5 H locs ls h hw hl
          refine lv_iconst (v := 1) cx.1 cx.2.1 dX12_goesOn_82 (by decide) ?_
          refine lv_goto (tgt := 87) cx.1 cx.2.1 dX12_goesOn_83 (by decide) ?_
          exact J87 σ l5 1 _ _ _ h hw (lv_sub hl [0, 1, 2, 3] rfl)
        have J71 : ∀ (σ : md_S) (l4 : Int32) (l5 : Int32) (t0 : Int32) (t1 : Int32) (H : Heap) (locs : List Loc) (ls : Array Slot), f_X12_goesOn_J71 n l1 l2 (f_X12_goesOn_L31 n l1 l2 j) σ l4 l5 t0 t1 = some q → hp_w D vwCl (hp_Tl cA) E (hp_A (md_pic cA ad σ0) sz) ss H locs (md_pic cA ad σ) → lv_has ls 7 [(0, .ref (ad 137)), (1, .int l1), (2, .int l2), (4, .int l4), (5, .int l5)] → W pp l ee ({ frames := 1, cells := 0, slots := 0, locals := 24 }) ss mm [.ref (ad 137), .int a1, .int a2].toArray bb mt cd H locs 0 0 (MQ bb (hp_Qi D vwCl (hp_Tl cA) sz (md_pic cA ad σ0) (fun r u => r = p.1 ∧ u = md_pic cA ad p.2)) [.ref (ad 137), .int a1, .int a2].toArray ss 0 0 (hp_A (md_pic cA ad σ0) sz)) (F0 mm 71 ls [.int t0, .int t1, .ref (ad 137)]) := by
          intro σ l4 l5 t0 t1 H locs ls h hw hl
          obtain ⟨p6, e_p6, h⟩ := md_ob h
          refine hp_callVi (As := [.int t1, .int t0]) (rest := []) cx hw (km_X12_adds l D cA E _ ad hj hE n σ t1 t0 p6 e_p6) (cwV 2 cx.2.2.2.2.2.1 (md_giV mm_509 mm_510 mm_511 mm_5 mm_512) rfl rfl rfl hd_X12_adds ⟨Nat.le_of_ble_eq_true rfl, Nat.le_of_ble_eq_true rfl⟩) md_at0 rfl rfl hl.1 rfl (Nat.le_of_ble_eq_true rfl) dX12_goesOn_71 ⟨Nat.le_refl _, Nat.le_refl _⟩ (fun r u H locs hp hw => ?_)
          obtain ⟨rfl, rfl⟩ := hp
          refine lv_if_ne (tgt := 82) cx.1 cx.2.1 dX12_goesOn_74 (by decide) (fun c74 => ?_) (fun c74 => ?_)
          · have h := md_in c74 h
            exact J82 p6.2 l5 _ _ _ h hw (lv_sub hl [0, 1, 2, 4] rfl)
          · have h := md_ip c74 h
            refine lv_iload cx.1 cx.2.1 dX12_goesOn_77 (lv_at hl 3 rfl) ?_
            refine lv_if_eq (tgt := 86) cx.1 cx.2.1 dX12_goesOn_79 (by decide) (fun c79 => ?_) (fun c79 => ?_)
            · have h := md_ip c79 h
              refine lv_iconst (v := 0) cx.1 cx.2.1 dX12_goesOn_86 (by decide) ?_
              exact J87 p6.2 l5 0 _ _ _ h hw (lv_sub hl [0, 1, 2, 4] rfl)
            · have h := md_in c79 h
              exact J82 p6.2 l5 _ _ _ h hw (lv_sub hl [0, 1, 2, 4] rfl)
        have J70 : ∀ (σ : md_S) (l4 : Int32) (l5 : Int32) (t0 : Int32) (H : Heap) (locs : List Loc) (ls : Array Slot), f_X12_goesOn_J70 n l1 l2 (f_X12_goesOn_L31 n l1 l2 j) σ l4 l5 t0 = some q → hp_w D vwCl (hp_Tl cA) E (hp_A (md_pic cA ad σ0) sz) ss H locs (md_pic cA ad σ) → lv_has ls 7 [(0, .ref (ad 137)), (1, .int l1), (2, .int l2), (4, .int l4), (5, .int l5)] → W pp l ee ({ frames := 1, cells := 0, slots := 0, locals := 24 }) ss mm [.ref (ad 137), .int a1, .int a2].toArray bb mt cd H locs 0 0 (MQ bb (hp_Qi D vwCl (hp_Tl cA) sz (md_pic cA ad σ0) (fun r u => r = p.1 ∧ u = md_pic cA ad p.2)) [.ref (ad 137), .int a1, .int a2].toArray ss 0 0 (hp_A (md_pic cA ad σ0) sz)) (F0 mm 70 ls [.int t0, .ref (ad 137)]) := by
          intro σ l4 l5 t0 H locs ls h hw hl
          refine lv_iconst (v := 0) cx.1 cx.2.1 dX12_goesOn_70 (by decide) ?_
          exact J71 σ l4 l5 0 t0 _ _ _ h hw (lv_sub hl [0, 1, 2, 3, 4] rfl)
        refine lv_iload cx.1 cx.2.1 dX12_goesOn_31 (lv_at hl 4 rfl) ?_
        refine lv_aload_n cx.1 cx.2.1 dX12_goesOn_33 rfl (lv_at hl 0 rfl) ?_
        refine md_gI (k := 35) cx hw hin12c rfl (by decide) (List.mem_cons_of_mem _ mm_143) dX12_goesOn_34 ?_
        refine lv_icmp_ge (tgt := 95) cx.1 cx.2.1 dX12_goesOn_37 (by decide) (fun c37 => ?_) (fun c37 => ?_)
        · have h := md_ip c37 h
          obtain rfl := Option.some.inj h
          exact K _ _ _ hw (lv_sub hl [3] rfl)
        · have h := md_in c37 h
          refine lv_aload_n cx.1 cx.2.1 dX12_goesOn_40 rfl (lv_at hl 0 rfl) ?_
          refine lv_iload_n cx.1 cx.2.1 dX12_goesOn_41 rfl (lv_at hl 1 rfl) ?_
          refine lv_iload cx.1 cx.2.1 dX12_goesOn_42 (lv_at hl 4 rfl) ?_
          obtain ⟨p7, e_p7, h⟩ := md_ob h
          refine hp_callVi (As := [.int l1, .int l5]) (rest := []) cx hw (km_X12_isOfGroup l D cA E _ ad hj hE n σ l1 l5 p7 e_p7) (cwV 2 cx.2.2.2.2.2.1 (md_giV mm_145 mm_146 mm_147 mm_5 mm_148) rfl rfl rfl hd_X12_isOfGroup ⟨Nat.le_of_ble_eq_true rfl, Nat.le_of_ble_eq_true rfl⟩) md_at0 rfl rfl hl.1 rfl (Nat.le_of_ble_eq_true rfl) dX12_goesOn_44 ⟨Nat.le_refl _, Nat.le_refl _⟩ (fun r u H locs hp hw => ?_)
          obtain ⟨rfl, rfl⟩ := hp
          refine lv_if_eq (tgt := 89) cx.1 cx.2.1 dX12_goesOn_47 (by decide) (fun c47 => ?_) (fun c47 => ?_)
          · have h := md_ip c47 h
            exact J89 p7.2 l4 l5 _ _ _ h hw (lv_sub hl [0, 1, 2, 3, 4] rfl)
          · have h := md_in c47 h
            refine lv_aload_n cx.1 cx.2.1 dX12_goesOn_50 rfl (lv_at hl 0 rfl) ?_
            refine lv_iload cx.1 cx.2.1 dX12_goesOn_51 (lv_at hl 4 rfl) ?_
            refine lv_iload_n cx.1 cx.2.1 dX12_goesOn_53 rfl (lv_at hl 2 rfl) ?_
            refine lv_if_eq (tgt := 70) cx.1 cx.2.1 dX12_goesOn_54 (by decide) (fun c54 => ?_) (fun c54 => ?_)
            · have h := md_ip c54 h
              exact J70 p7.2 l4 l5 l5 _ _ _ h hw (lv_sub hl [0, 1, 2, 3, 4] rfl)
            · have h := md_in c54 h
              refine lv_aload_n cx.1 cx.2.1 dX12_goesOn_57 rfl (lv_at hl 0 rfl) ?_
              refine lv_iload cx.1 cx.2.1 dX12_goesOn_58 (lv_at hl 4 rfl) ?_
              obtain ⟨p8, e_p8, h⟩ := md_ob h
              refine hp_callVi (As := [.int l5]) (rest := [.int l5, .ref (ad 137)]) cx hw (km_X12_own l D cA E _ ad hj hE n p7.2 l5 p8 e_p8) (cwV 1 cx.2.2.2.2.2.1 (md_giV mm_505 mm_506 mm_507 mm_5 mm_508) rfl rfl rfl hd_X12_own ⟨Nat.le_of_ble_eq_true rfl, Nat.le_of_ble_eq_true rfl⟩) md_at0 rfl rfl hl.1 rfl (Nat.le_of_ble_eq_true rfl) dX12_goesOn_60 ⟨Nat.le_refl _, Nat.le_refl _⟩ (fun r u H locs hp hw => ?_)
              obtain ⟨rfl, rfl⟩ := hp
              refine lv_if_eq (tgt := 70) cx.1 cx.2.1 dX12_goesOn_63 (by decide) (fun c63 => ?_) (fun c63 => ?_)
              · have h := md_ip c63 h
                exact J70 p8.2 l4 l5 l5 _ _ _ h hw (lv_sub hl [0, 1, 2, 3, 4] rfl)
              · have h := md_in c63 h
                refine lv_iconst (v := 1) cx.1 cx.2.1 dX12_goesOn_66 (by decide) ?_
                refine lv_goto (tgt := 71) cx.1 cx.2.1 dX12_goesOn_67 (by decide) ?_
                exact J71 p8.2 l4 l5 1 l5 _ _ _ h hw (lv_sub hl [0, 1, 2, 3, 4] rfl)
    obtain ⟨q9, e_q9, h⟩ := md_ob h
    refine L31 n σ l1 l2 l4 0 q9 _ _ _ e_q9 hw (lv_sub hl [1, 2, 3, 4, 0] rfl) (fun H locs ls hw hl => ?_)
    refine lv_goto (tgt := 310) cx.1 cx.2.1 dX12_goesOn_95 (by decide) ?_
    refine lv_iload cx.1 cx.2.1 dX12_goesOn_310 (lv_at hl 0 rfl) ?_
    obtain ⟨z10, e_z10, h⟩ := md_ob h
    rw [(md_zbs e_z10).1] at h
    exact hp_zret cx hw (md_ret h) (md_nbn (md_zbs e_z10).2) dX12_goesOn_312
  refine lv_aload_n cx.1 cx.2.1 dX12_goesOn_0 rfl (lv_at hl 0 rfl) ?_
  refine md_gR (k := 66) cx hw hin12c (by decide) (by decide) (List.mem_cons_of_mem _ mm_128) dX12_goesOn_1 ?_
  refine lv_iload_n cx.1 cx.2.1 dX12_goesOn_4 rfl (lv_at hl 1 rfl) ?_
  obtain ⟨v11, e_v11, h⟩ := md_ob h
  refine md_lI (k := 66) hj cx hw (by decide) rfl rfl rfl e_v11 dX12_goesOn_5 ?_
  refine lv_istore_n (lv' := [(3, .int v11), (0, .ref (ad 137)), (1, .int a1), (2, .int a2)]) cx.1 cx.2.1 dX12_goesOn_6 rfl hl (by decide) rfl (fun ls hl => ?_)
  refine lv_iconst (v := 0) cx.1 cx.2.1 dX12_goesOn_7 (by decide) ?_
  refine lv_istore (lv' := [(4, .int 0), (3, .int v11), (0, .ref (ad 137)), (1, .int a1), (2, .int a2)]) cx.1 cx.2.1 dX12_goesOn_8 hl (by decide) rfl (fun ls hl => ?_)
  refine lv_iload_n cx.1 cx.2.1 dX12_goesOn_10 rfl (lv_at hl 1 rfl) ?_
  refine lv_bipush (v := 7) cx.1 cx.2.1 dX12_goesOn_11 (by decide) ?_
  refine lv_icmp_eq (tgt := 28) cx.1 cx.2.1 dX12_goesOn_13 (by decide) (fun c13 => ?_) (fun c13 => ?_)
  · have h := md_ip c13 h
    exact J28 σ0 a1 a2 0 _ _ _ h hw (lv_sub hl [2, 3, 4, 0] rfl)
  · have h := md_in c13 h
    refine lv_iload_n cx.1 cx.2.1 dX12_goesOn_16 rfl (lv_at hl 1 rfl) ?_
    refine lv_bipush (v := 8) cx.1 cx.2.1 dX12_goesOn_17 (by decide) ?_
    refine lv_icmp_eq (tgt := 28) cx.1 cx.2.1 dX12_goesOn_19 (by decide) (fun c19 => ?_) (fun c19 => ?_)
    · have h := md_ip c19 h
      exact J28 σ0 a1 a2 0 _ _ _ h hw (lv_sub hl [2, 3, 4, 0] rfl)
    · have h := md_in c19 h
      refine lv_iload_n cx.1 cx.2.1 dX12_goesOn_22 rfl (lv_at hl 1 rfl) ?_
      refine lv_bipush (v := 23) cx.1 cx.2.1 dX12_goesOn_23 (by decide) ?_
      refine lv_icmp_ne (tgt := 98) cx.1 cx.2.1 dX12_goesOn_25 (by decide) (fun c25 => ?_) (fun c25 => ?_)
      · have h := md_in c25 h
        refine lv_iload_n cx.1 cx.2.1 dX12_goesOn_98 rfl (lv_at hl 1 rfl) ?_
        refine lv_bipush (v := 27) cx.1 cx.2.1 dX12_goesOn_99 (by decide) ?_
        refine lv_icmp_ne (tgt := 146) cx.1 cx.2.1 dX12_goesOn_101 (by decide) (fun c101 => ?_) (fun c101 => ?_)
        · have h := md_in c101 h
          refine lv_iload_n cx.1 cx.2.1 dX12_goesOn_146 rfl (lv_at hl 1 rfl) ?_
          refine lv_bipush (v := 10) cx.1 cx.2.1 dX12_goesOn_147 (by decide) ?_
          refine lv_icmp_ne (tgt := 310) cx.1 cx.2.1 dX12_goesOn_149 (by decide) (fun c149 => ?_) (fun c149 => ?_)
          · have h := md_in c149 h
            refine lv_iload cx.1 cx.2.1 dX12_goesOn_310 (lv_at hl 0 rfl) ?_
            exact hp_zret cx hw (md_ret h) (by decide) dX12_goesOn_312
          · have h := md_ip c149 h
            refine lv_aload_n cx.1 cx.2.1 dX12_goesOn_152 rfl (lv_at hl 2 rfl) ?_
            refine md_gR (k := 68) cx hw hin12c (by decide) (by decide) (List.mem_cons_of_mem _ mm_131) dX12_goesOn_153 ?_
            refine lv_iload_n cx.1 cx.2.1 dX12_goesOn_156 rfl (lv_at hl 3 rfl) ?_
            obtain ⟨v12, e_v12, h⟩ := md_ob h
            refine md_lI (k := 68) hj cx hw (by decide) rfl rfl rfl e_v12 dX12_goesOn_157 ?_
            refine lv_istore (lv' := [(5, .int v12), (4, .int 0), (3, .int v11), (0, .ref (ad 137)), (1, .int a1), (2, .int a2)]) cx.1 cx.2.1 dX12_goesOn_158 hl (by decide) rfl (fun ls hl => ?_)
            refine lv_aload_n cx.1 cx.2.1 dX12_goesOn_160 rfl (lv_at hl 3 rfl) ?_
            refine md_gR (k := 36) cx hw hin12c (by decide) (by decide) (List.mem_cons_of_mem _ mm_139) dX12_goesOn_161 ?_
            refine lv_iload cx.1 cx.2.1 dX12_goesOn_164 (lv_at hl 0 rfl) ?_
            obtain ⟨v13, e_v13, h⟩ := md_ob h
            refine md_lI (k := 36) hj cx hw (by decide) rfl rfl rfl e_v13 dX12_goesOn_166 ?_
            refine lv_iconst (v := 4) cx.1 cx.2.1 dX12_goesOn_167 (by decide) ?_
            refine lv_icmp_ne (tgt := 240) cx.1 cx.2.1 dX12_goesOn_168 (by decide) (fun c168 => ?_) (fun c168 => ?_)
            · have h := md_in c168 h
              refine lv_aload_n cx.1 cx.2.1 dX12_goesOn_240 rfl (lv_at hl 3 rfl) ?_
              refine md_gR (k := 36) cx hw hin12c (by decide) (by decide) (List.mem_cons_of_mem _ mm_139) dX12_goesOn_241 ?_
              refine lv_iload cx.1 cx.2.1 dX12_goesOn_244 (lv_at hl 0 rfl) ?_
              obtain ⟨v14, e_v14, h⟩ := md_ob h
              refine md_lI (k := 36) hj cx hw (by decide) rfl rfl rfl e_v14 dX12_goesOn_246 ?_
              refine lv_iconst (v := 2) cx.1 cx.2.1 dX12_goesOn_247 (by decide) ?_
              refine lv_icmp_eq (tgt := 276) cx.1 cx.2.1 dX12_goesOn_248 (by decide) (fun c248 => ?_) (fun c248 => ?_)
              · have h := md_ip c248 h
                exact J276 σ0 v12 _ _ _ h hw (lv_sub hl [3, 0] rfl)
              · have h := md_in c248 h
                refine lv_iload_n cx.1 cx.2.1 dX12_goesOn_251 rfl (lv_at hl 5 rfl) ?_
                refine lv_if_ne (tgt := 276) cx.1 cx.2.1 dX12_goesOn_252 (by decide) (fun c252 => ?_) (fun c252 => ?_)
                · have h := md_in c252 h
                  exact J276 σ0 v12 _ _ _ h hw (lv_sub hl [3, 0] rfl)
                · have h := md_ip c252 h
                  refine lv_aload_n cx.1 cx.2.1 dX12_goesOn_255 rfl (lv_at hl 3 rfl) ?_
                  refine md_gI (k := 85) cx hw hin12c rfl (by decide) (List.mem_cons_of_mem _ mm_502) dX12_goesOn_256 ?_
                  refine lv_bipush (v := 8) cx.1 cx.2.1 dX12_goesOn_259 (by decide) ?_
                  refine lv_aload_n cx.1 cx.2.1 dX12_goesOn_261 rfl (lv_at hl 3 rfl) ?_
                  refine md_gR (k := 42) cx hw hin12c (by decide) (by decide) (List.mem_cons_of_mem _ mm_247) dX12_goesOn_262 ?_
                  refine lv_iload cx.1 cx.2.1 dX12_goesOn_265 (lv_at hl 0 rfl) ?_
                  obtain ⟨v15, e_v15, h⟩ := md_ob h
                  refine md_lI (k := 42) hj cx hw (by decide) rfl rfl rfl e_v15 dX12_goesOn_267 ?_
                  refine lv_iadd cx.1 cx.2.1 dX12_goesOn_268 ?_
                  refine lv_ishr cx.1 cx.2.1 dX12_goesOn_269 ?_
                  refine lv_iconst (v := 1) cx.1 cx.2.1 dX12_goesOn_270 (by decide) ?_
                  refine lv_iand cx.1 cx.2.1 dX12_goesOn_271 ?_
                  refine lv_iconst (v := 1) cx.1 cx.2.1 dX12_goesOn_272 (by decide) ?_
                  refine lv_icmp_ne (tgt := 280) cx.1 cx.2.1 dX12_goesOn_273 (by decide) (fun c273 => ?_) (fun c273 => ?_)
                  · have h := md_in c273 h
                    refine lv_iconst (v := 0) cx.1 cx.2.1 dX12_goesOn_280 (by decide) ?_
                    exact J281 σ0 v12 0 _ _ _ h hw (lv_sub hl [3, 0] rfl)
                  · have h := md_ip c273 h
                    exact J276 σ0 v12 _ _ _ h hw (lv_sub hl [3, 0] rfl)
            · have h := md_ip c168 h
              refine lv_iconst (v := 1) cx.1 cx.2.1 dX12_goesOn_171 (by decide) ?_
              refine lv_istore (lv' := [(6, .int 1), (5, .int v12), (4, .int 0), (3, .int v11), (0, .ref (ad 137)), (1, .int a1), (2, .int a2)]) cx.1 cx.2.1 dX12_goesOn_172 hl (by decide) rfl (fun ls hl => ?_)
              have L174 : ∀ (j : Nat) (σ : md_S) (l5 : Int32) (l4 : Int32) (l6 : Int32) (q : (md_S × Int32 × Int32)) (H : Heap) (locs : List Loc) (ls : Array Slot), f_X12_goesOn_L174 n l5 j σ l4 l6 = some q → hp_w D vwCl (hp_Tl cA) E (hp_A (md_pic cA ad σ0) sz) ss H locs (md_pic cA ad σ) → lv_has ls 7 [(0, .ref (ad 137)), (4, .int l4), (5, .int l5), (6, .int l6)] → (∀ (H : Heap) (locs : List Loc) (ls : Array Slot), hp_w D vwCl (hp_Tl cA) E (hp_A (md_pic cA ad σ0) sz) ss H locs (md_pic cA ad q.1) → lv_has ls 7 [(4, .int q.2.1)] → W pp l ee ({ frames := 1, cells := 0, slots := 0, locals := 24 }) ss mm [.ref (ad 137), .int a1, .int a2].toArray bb mt cd H locs 0 0 (MQ bb (hp_Qi D vwCl (hp_Tl cA) sz (md_pic cA ad σ0) (fun r u => r = p.1 ∧ u = md_pic cA ad p.2)) [.ref (ad 137), .int a1, .int a2].toArray ss 0 0 (hp_A (md_pic cA ad σ0) sz)) (F0 mm 237 ls [])) → W pp l ee ({ frames := 1, cells := 0, slots := 0, locals := 24 }) ss mm [.ref (ad 137), .int a1, .int a2].toArray bb mt cd H locs 0 0 (MQ bb (hp_Qi D vwCl (hp_Tl cA) sz (md_pic cA ad σ0) (fun r u => r = p.1 ∧ u = md_pic cA ad p.2)) [.ref (ad 137), .int a1, .int a2].toArray ss 0 0 (hp_A (md_pic cA ad σ0) sz)) (F0 mm 174 ls []) := by
                intro j
                induction j with
                | zero => intro σ l5 l4 l6 q H locs ls h; exact nomatch h
                | succ j ih =>
                  intro σ l5 l4 l6 q H locs ls h hw hl K
                  have J229 : ∀ (σ : md_S) (l6 : Int32) (t0 : Int32) (H : Heap) (locs : List Loc) (ls : Array Slot), f_X12_goesOn_J229 n l5 (f_X12_goesOn_L174 n l5 j) σ l6 t0 = some q → hp_w D vwCl (hp_Tl cA) E (hp_A (md_pic cA ad σ0) sz) ss H locs (md_pic cA ad σ) → lv_has ls 7 [(0, .ref (ad 137)), (5, .int l5), (6, .int l6)] → W pp l ee ({ frames := 1, cells := 0, slots := 0, locals := 24 }) ss mm [.ref (ad 137), .int a1, .int a2].toArray bb mt cd H locs 0 0 (MQ bb (hp_Qi D vwCl (hp_Tl cA) sz (md_pic cA ad σ0) (fun r u => r = p.1 ∧ u = md_pic cA ad p.2)) [.ref (ad 137), .int a1, .int a2].toArray ss 0 0 (hp_A (md_pic cA ad σ0) sz)) (F0 mm 229 ls [.int t0]) := by
                    intro σ l6 t0 H locs ls h hw hl
                    refine lv_istore (lv' := [(4, .int t0), (0, .ref (ad 137)), (5, .int l5), (6, .int l6)]) cx.1 cx.2.1 dX12_goesOn_229 hl (by decide) rfl (fun ls hl => ?_)
                    refine lv_iinc (v := (l6 + 1)) (lv' := [(6, .int (l6 + 1)), (4, .int t0), (0, .ref (ad 137)), (5, .int l5)]) cx.1 cx.2.1 dX12_goesOn_231 hl (k := 3) rfl rfl (by decide) rfl (fun ls hl => ?_)
                    refine lv_goto (tgt := 174) cx.1 cx.2.1 dX12_goesOn_234 (by decide) ?_
                    exact ih σ l5 t0 ((l6 + 1)) q _ _ _ h hw (lv_sub hl [2, 1, 3, 0] rfl) K
                  have J224 : ∀ (σ : md_S) (l6 : Int32) (H : Heap) (locs : List Loc) (ls : Array Slot), f_X12_goesOn_J224 n l5 (f_X12_goesOn_L174 n l5 j) σ l6 = some q → hp_w D vwCl (hp_Tl cA) E (hp_A (md_pic cA ad σ0) sz) ss H locs (md_pic cA ad σ) → lv_has ls 7 [(0, .ref (ad 137)), (5, .int l5), (6, .int l6)] → W pp l ee ({ frames := 1, cells := 0, slots := 0, locals := 24 }) ss mm [.ref (ad 137), .int a1, .int a2].toArray bb mt cd H locs 0 0 (MQ bb (hp_Qi D vwCl (hp_Tl cA) sz (md_pic cA ad σ0) (fun r u => r = p.1 ∧ u = md_pic cA ad p.2)) [.ref (ad 137), .int a1, .int a2].toArray ss 0 0 (hp_A (md_pic cA ad σ0) sz)) (F0 mm 224 ls []) := by
                    intro σ l6 H locs ls h hw hl
                    refine lv_iconst (v := 1) cx.1 cx.2.1 dX12_goesOn_224 (by decide) ?_
                    refine lv_goto (tgt := 229) cx.1 cx.2.1 dX12_goesOn_225 (by decide) ?_
                    exact J229 σ l6 1 _ _ _ h hw (lv_sub hl [0, 1, 2] rfl)
                  have J219 : ∀ (σ : md_S) (l4 : Int32) (l6 : Int32) (H : Heap) (locs : List Loc) (ls : Array Slot), f_X12_goesOn_J219 n l5 (f_X12_goesOn_L174 n l5 j) σ l4 l6 = some q → hp_w D vwCl (hp_Tl cA) E (hp_A (md_pic cA ad σ0) sz) ss H locs (md_pic cA ad σ) → lv_has ls 7 [(0, .ref (ad 137)), (4, .int l4), (5, .int l5), (6, .int l6)] → W pp l ee ({ frames := 1, cells := 0, slots := 0, locals := 24 }) ss mm [.ref (ad 137), .int a1, .int a2].toArray bb mt cd H locs 0 0 (MQ bb (hp_Qi D vwCl (hp_Tl cA) sz (md_pic cA ad σ0) (fun r u => r = p.1 ∧ u = md_pic cA ad p.2)) [.ref (ad 137), .int a1, .int a2].toArray ss 0 0 (hp_A (md_pic cA ad σ0) sz)) (F0 mm 219 ls []) := by
                    intro σ l4 l6 H locs ls h hw hl
                    refine lv_iload cx.1 cx.2.1 dX12_goesOn_219 (lv_at hl 1 rfl) ?_
                    refine lv_if_eq (tgt := 228) cx.1 cx.2.1 dX12_goesOn_221 (by decide) (fun c221 => ?_) (fun c221 => ?_)
                    · have h := md_ip c221 h
                      refine lv_iconst (v := 0) cx.1 cx.2.1 dX12_goesOn_228 (by decide) ?_
                      exact J229 σ l6 0 _ _ _ h hw (lv_sub hl [0, 2, 3] rfl)
                    · have h := md_in c221 h
                      exact J224 σ l6 _ _ _ h hw (lv_sub hl [0, 2, 3] rfl)
                  have J213 : ∀ (σ : md_S) (l4 : Int32) (l6 : Int32) (t0 : Int32) (t1 : Int32) (H : Heap) (locs : List Loc) (ls : Array Slot), f_X12_goesOn_J213 n l5 (f_X12_goesOn_L174 n l5 j) σ l4 l6 t0 t1 = some q → hp_w D vwCl (hp_Tl cA) E (hp_A (md_pic cA ad σ0) sz) ss H locs (md_pic cA ad σ) → lv_has ls 7 [(0, .ref (ad 137)), (4, .int l4), (5, .int l5), (6, .int l6)] → W pp l ee ({ frames := 1, cells := 0, slots := 0, locals := 24 }) ss mm [.ref (ad 137), .int a1, .int a2].toArray bb mt cd H locs 0 0 (MQ bb (hp_Qi D vwCl (hp_Tl cA) sz (md_pic cA ad σ0) (fun r u => r = p.1 ∧ u = md_pic cA ad p.2)) [.ref (ad 137), .int a1, .int a2].toArray ss 0 0 (hp_A (md_pic cA ad σ0) sz)) (F0 mm 213 ls [.int t0, .int t1, .ref (ad 137)]) := by
                    intro σ l4 l6 t0 t1 H locs ls h hw hl
                    obtain ⟨p16, e_p16, h⟩ := md_ob h
                    refine hp_callVi (As := [.int t1, .int t0]) (rest := []) cx hw (km_X12_adds l D cA E _ ad hj hE n σ t1 t0 p16 e_p16) (cwV 2 cx.2.2.2.2.2.1 (md_giV mm_509 mm_510 mm_511 mm_5 mm_512) rfl rfl rfl hd_X12_adds ⟨Nat.le_of_ble_eq_true rfl, Nat.le_of_ble_eq_true rfl⟩) md_at0 rfl rfl hl.1 rfl (Nat.le_of_ble_eq_true rfl) dX12_goesOn_213 ⟨Nat.le_refl _, Nat.le_refl _⟩ (fun r u H locs hp hw => ?_)
                    obtain ⟨rfl, rfl⟩ := hp
                    refine lv_if_ne (tgt := 224) cx.1 cx.2.1 dX12_goesOn_216 (by decide) (fun c216 => ?_) (fun c216 => ?_)
                    · have h := md_in c216 h
                      exact J224 p16.2 l6 _ _ _ h hw (lv_sub hl [0, 2, 3] rfl)
                    · have h := md_ip c216 h
                      exact J219 p16.2 l4 l6 _ _ _ h hw (lv_sub hl [0, 1, 2, 3] rfl)
                  have J212 : ∀ (σ : md_S) (l4 : Int32) (l6 : Int32) (t0 : Int32) (H : Heap) (locs : List Loc) (ls : Array Slot), f_X12_goesOn_J212 n l5 (f_X12_goesOn_L174 n l5 j) σ l4 l6 t0 = some q → hp_w D vwCl (hp_Tl cA) E (hp_A (md_pic cA ad σ0) sz) ss H locs (md_pic cA ad σ) → lv_has ls 7 [(0, .ref (ad 137)), (4, .int l4), (5, .int l5), (6, .int l6)] → W pp l ee ({ frames := 1, cells := 0, slots := 0, locals := 24 }) ss mm [.ref (ad 137), .int a1, .int a2].toArray bb mt cd H locs 0 0 (MQ bb (hp_Qi D vwCl (hp_Tl cA) sz (md_pic cA ad σ0) (fun r u => r = p.1 ∧ u = md_pic cA ad p.2)) [.ref (ad 137), .int a1, .int a2].toArray ss 0 0 (hp_A (md_pic cA ad σ0) sz)) (F0 mm 212 ls [.int t0, .ref (ad 137)]) := by
                    intro σ l4 l6 t0 H locs ls h hw hl
                    refine lv_iconst (v := 0) cx.1 cx.2.1 dX12_goesOn_212 (by decide) ?_
                    exact J213 σ l4 l6 0 t0 _ _ _ h hw (lv_sub hl [0, 1, 2, 3] rfl)
                  refine lv_iload cx.1 cx.2.1 dX12_goesOn_174 (lv_at hl 3 rfl) ?_
                  refine lv_iconst (v := 3) cx.1 cx.2.1 dX12_goesOn_176 (by decide) ?_
                  refine lv_icmp_ge (tgt := 237) cx.1 cx.2.1 dX12_goesOn_177 (by decide) (fun c177 => ?_) (fun c177 => ?_)
                  · have h := md_ip c177 h
                    obtain rfl := Option.some.inj h
                    exact K _ _ _ hw (lv_sub hl [1] rfl)
                  · have h := md_in c177 h
                    refine lv_aload_n cx.1 cx.2.1 dX12_goesOn_180 rfl (lv_at hl 0 rfl) ?_
                    refine md_gI (k := 84) cx hw hin12c rfl (by decide) (List.mem_cons_of_mem _ mm_504) dX12_goesOn_181 ?_
                    refine lv_iload cx.1 cx.2.1 dX12_goesOn_184 (lv_at hl 3 rfl) ?_
                    refine lv_iand cx.1 cx.2.1 dX12_goesOn_186 ?_
                    refine lv_if_eq (tgt := 219) cx.1 cx.2.1 dX12_goesOn_187 (by decide) (fun c187 => ?_) (fun c187 => ?_)
                    · have h := md_ip c187 h
                      exact J219 σ l4 l6 _ _ _ h hw (lv_sub hl [0, 1, 2, 3] rfl)
                    · have h := md_in c187 h
                      refine lv_aload_n cx.1 cx.2.1 dX12_goesOn_190 rfl (lv_at hl 0 rfl) ?_
                      refine lv_iload cx.1 cx.2.1 dX12_goesOn_191 (lv_at hl 2 rfl) ?_
                      refine lv_iload cx.1 cx.2.1 dX12_goesOn_193 (lv_at hl 3 rfl) ?_
                      refine lv_iconst (v := 1) cx.1 cx.2.1 dX12_goesOn_195 (by decide) ?_
                      refine lv_icmp_ne (tgt := 212) cx.1 cx.2.1 dX12_goesOn_196 (by decide) (fun c196 => ?_) (fun c196 => ?_)
                      · have h := md_in c196 h
                        exact J212 σ l4 l6 l5 _ _ _ h hw (lv_sub hl [0, 1, 2, 3] rfl)
                      · have h := md_ip c196 h
                        refine lv_aload_n cx.1 cx.2.1 dX12_goesOn_199 rfl (lv_at hl 0 rfl) ?_
                        refine lv_iload cx.1 cx.2.1 dX12_goesOn_200 (lv_at hl 2 rfl) ?_
                        obtain ⟨p17, e_p17, h⟩ := md_ob h
                        refine hp_callVi (As := [.int l5]) (rest := [.int l5, .ref (ad 137)]) cx hw (km_X12_own l D cA E _ ad hj hE n σ l5 p17 e_p17) (cwV 1 cx.2.2.2.2.2.1 (md_giV mm_505 mm_506 mm_507 mm_5 mm_508) rfl rfl rfl hd_X12_own ⟨Nat.le_of_ble_eq_true rfl, Nat.le_of_ble_eq_true rfl⟩) md_at0 rfl rfl hl.1 rfl (Nat.le_of_ble_eq_true rfl) dX12_goesOn_202 ⟨Nat.le_refl _, Nat.le_refl _⟩ (fun r u H locs hp hw => ?_)
                        obtain ⟨rfl, rfl⟩ := hp
                        refine lv_if_eq (tgt := 212) cx.1 cx.2.1 dX12_goesOn_205 (by decide) (fun c205 => ?_) (fun c205 => ?_)
                        · have h := md_ip c205 h
                          exact J212 p17.2 l4 l6 l5 _ _ _ h hw (lv_sub hl [0, 1, 2, 3] rfl)
                        · have h := md_in c205 h
                          refine lv_iconst (v := 1) cx.1 cx.2.1 dX12_goesOn_208 (by decide) ?_
                          refine lv_goto (tgt := 213) cx.1 cx.2.1 dX12_goesOn_209 (by decide) ?_
                          exact J213 p17.2 l4 l6 1 l5 _ _ _ h hw (lv_sub hl [0, 1, 2, 3] rfl)
              obtain ⟨q18, e_q18, h⟩ := md_ob h
              refine L174 n σ0 v12 0 1 q18 _ _ _ e_q18 hw (lv_sub hl [4, 2, 1, 0] rfl) (fun H locs ls hw hl => ?_)
              refine lv_goto (tgt := 310) cx.1 cx.2.1 dX12_goesOn_237 (by decide) ?_
              refine lv_iload cx.1 cx.2.1 dX12_goesOn_310 (lv_at hl 0 rfl) ?_
              obtain ⟨z19, e_z19, h⟩ := md_ob h
              rw [(md_zbs e_z19).1] at h
              exact hp_zret cx hw (md_ret h) (md_nbn (md_zbs e_z19).2) dX12_goesOn_312
        · have h := md_ip c101 h
          refine lv_iload_n cx.1 cx.2.1 dX12_goesOn_104 rfl (lv_at hl 4 rfl) ?_
          refine lv_if_eq (tgt := 112) cx.1 cx.2.1 dX12_goesOn_105 (by decide) (fun c105 => ?_) (fun c105 => ?_)
          · have h := md_ip c105 h
            refine lv_iconst (v := 2) cx.1 cx.2.1 dX12_goesOn_112 (by decide) ?_
            exact J113 σ0 2 _ _ _ h hw (lv_sub hl [2] rfl)
          · have h := md_in c105 h
            refine lv_iconst (v := 1) cx.1 cx.2.1 dX12_goesOn_108 (by decide) ?_
            refine lv_goto (tgt := 113) cx.1 cx.2.1 dX12_goesOn_109 (by decide) ?_
            exact J113 σ0 1 _ _ _ h hw (lv_sub hl [2] rfl)
      · have h := md_ip c25 h
        exact J28 σ0 a1 a2 0 _ _ _ h hw (lv_sub hl [2, 3, 4, 0] rfl)
