set_option maxHeartbeats 4000000 in
set_option maxRecDepth 100000 in
theorem km_X12_grant (l : Launch) (D : va_G) (cA : Nat → ClassId) (E : hp_N) (sz : Nat) (ad : Nat → Nat) (hj : md_inj ad) (hE : md_E E) (n : Nat) (σ0 : md_S) (p : (Int32 × md_S)) (h : f_X12_grant n σ0 = some p) : Met l yX12_grant (Cond.code yX12_grant cX12_grant 1 none :: v_MOD) ({ frames := 10, cells := 0, slots := 0, locals := 242 }) (hp_Pc D vwCl (hp_Tl cA) E sz (md_pic cA ad σ0) [.ref (ad 137)]) (hp_Qv D vwCl (hp_Tl cA) sz (md_pic cA ad σ0) (fun u => u = md_pic cA ad p.2)) 0 0 (hp_A (md_pic cA ad σ0) sz) := by
  refine hp_ofW (cc := cX12_grant) (maxL := 1) (ret := none) (by decide) rfl (Nat.le_of_ble_eq_true rfl) ?_
  intro pp ee ss mm bb mt cd ls cx hsz hw hl
  have hl : lv_has ls 1 [(0, .ref (ad 137))] := hl
  refine lv_aload_n cx.1 cx.2.1 dX12_grant_0 rfl (lv_at hl 0 rfl) ?_
  refine md_gI (k := 20) cx hw hin12c rfl (by decide) (List.mem_cons_of_mem _ mm_121) dX12_grant_1 ?_
  refine lv_bipush (v := 8) cx.1 cx.2.1 dX12_grant_4 (by decide) ?_
  refine lv_icmp_ne (tgt := 15) cx.1 cx.2.1 dX12_grant_6 (by decide) (fun c6 => ?_) (fun c6 => ?_)
  · have h := md_in c6 h
    refine lv_aload_n cx.1 cx.2.1 dX12_grant_15 rfl (lv_at hl 0 rfl) ?_
    obtain ⟨p1, e_p1, h⟩ := md_ob h
    refine hp_callVv (As := []) (rest := []) cx hw (km_X12_next l D cA E _ ad hj hE n σ0  p1 e_p1) (cwV 0 cx.2.2.2.2.2.1 (md_giV mm_92 mm_93 mm_94 mm_5 mm_95) rfl rfl rfl hd_X12_next ⟨Nat.le_of_ble_eq_true rfl, Nat.le_of_ble_eq_true rfl⟩) md_at0 rfl rfl hl.1 rfl (Nat.le_of_ble_eq_true rfl) dX12_grant_16 ⟨Nat.le_refl _, Nat.le_refl _⟩ (fun u H locs hp hw => ?_)
    obtain rfl := hp
    refine lv_aload_n cx.1 cx.2.1 dX12_grant_19 rfl (lv_at hl 0 rfl) ?_
    refine md_gR (k := 23) cx hw hin12c (by decide) (by decide) (List.mem_cons_of_mem _ mm_111) dX12_grant_20 ?_
    refine lv_aload_n cx.1 cx.2.1 dX12_grant_23 rfl (lv_at hl 0 rfl) ?_
    refine md_gI (k := 20) cx hw hin12c rfl (by decide) (List.mem_cons_of_mem _ mm_121) dX12_grant_24 ?_
    refine lv_iconst (v := 0) cx.1 cx.2.1 dX12_grant_27 (by decide) ?_
    obtain ⟨σ2, e_σ2, h⟩ := md_ob h
    refine md_sI (k := 23) hj cx hw (by decide) rfl rfl rfl e_σ2 dX12_grant_28 (fun H locs hw => ?_)
    refine lv_aload_n cx.1 cx.2.1 dX12_grant_29 rfl (lv_at hl 0 rfl) ?_
    refine lv_bipush (v := 8) cx.1 cx.2.1 dX12_grant_30 (by decide) ?_
    refine lv_aload_n cx.1 cx.2.1 dX12_grant_32 rfl (lv_at hl 0 rfl) ?_
    refine md_gI (k := 20) cx hw hin12c rfl (by decide) (List.mem_cons_of_mem _ mm_121) dX12_grant_33 ?_
    refine lv_iadd cx.1 cx.2.1 dX12_grant_36 ?_
    refine lv_iconst (v := 0) cx.1 cx.2.1 dX12_grant_37 (by decide) ?_
    obtain ⟨p3, e_p3, h⟩ := md_ob h
    refine hp_callVv (As := [.int ((8 : Int32) + (mI σ2 20)), .int 0]) (rest := []) cx hw (km_X12_pattern l D cA E _ ad hj hE n σ2 (((8 : Int32) + (mI σ2 20))) (0 : Int32) p3 e_p3) (cwV 2 cx.2.2.2.2.2.1 (md_giV mm_113 mm_114 mm_115 mm_5 mm_116) rfl rfl rfl hd_X12_pattern ⟨Nat.le_of_ble_eq_true rfl, Nat.le_of_ble_eq_true rfl⟩) md_at0 rfl rfl hl.1 rfl (Nat.le_of_ble_eq_true rfl) dX12_grant_38 ⟨Nat.le_refl _, Nat.le_refl _⟩ (fun u H locs hp hw => ?_)
    obtain rfl := hp
    refine lv_aload_n cx.1 cx.2.1 dX12_grant_41 rfl (lv_at hl 0 rfl) ?_
    refine lv_bipush (v := 123) cx.1 cx.2.1 dX12_grant_42 (by decide) ?_
    obtain ⟨p4, e_p4, h⟩ := md_ob h
    refine hp_callVv (As := [.int 123]) (rest := []) cx hw (km_X12_sign l D cA E _ ad hj hE n p3.2 (123 : Int32) p4 e_p4) (cwV 1 cx.2.2.2.2.2.1 (md_giV mm_161 mm_162 mm_163 mm_5 mm_164) rfl rfl rfl hd_X12_sign ⟨Nat.le_of_ble_eq_true rfl, Nat.le_of_ble_eq_true rfl⟩) md_at0 rfl rfl hl.1 rfl (Nat.le_of_ble_eq_true rfl) dX12_grant_44 ⟨Nat.le_refl _, Nat.le_refl _⟩ (fun u H locs hp hw => ?_)
    obtain rfl := hp
    have L47 : ∀ (j : Nat) (σ : md_S) (q : (md_S)) (H : Heap) (locs : List Loc) (ls : Array Slot), f_X12_grant_L47 n j σ = some q → hp_w D vwCl (hp_Tl cA) E (hp_A (md_pic cA ad σ0) sz) ss H locs (md_pic cA ad σ) → lv_has ls 1 [(0, .ref (ad 137))] → (∀ (H : Heap) (locs : List Loc) (ls : Array Slot), hp_w D vwCl (hp_Tl cA) E (hp_A (md_pic cA ad σ0) sz) ss H locs (md_pic cA ad q) → lv_has ls 1 [(0, .ref (ad 137))] → W pp l ee ({ frames := 10, cells := 0, slots := 0, locals := 242 }) ss mm [.ref (ad 137)].toArray bb mt cd H locs 0 0 (MQ bb (hp_Qv D vwCl (hp_Tl cA) sz (md_pic cA ad σ0) (fun u => u = md_pic cA ad p.2)) [.ref (ad 137)].toArray ss 0 0 (hp_A (md_pic cA ad σ0) sz)) (F0 mm 79 ls [])) → W pp l ee ({ frames := 10, cells := 0, slots := 0, locals := 242 }) ss mm [.ref (ad 137)].toArray bb mt cd H locs 0 0 (MQ bb (hp_Qv D vwCl (hp_Tl cA) sz (md_pic cA ad σ0) (fun u => u = md_pic cA ad p.2)) [.ref (ad 137)].toArray ss 0 0 (hp_A (md_pic cA ad σ0) sz)) (F0 mm 47 ls []) := by
      intro j
      induction j with
      | zero => intro σ q H locs ls h; exact nomatch h
      | succ j ih =>
        intro σ q H locs ls h hw hl K
        refine lv_aload_n cx.1 cx.2.1 dX12_grant_47 rfl (lv_at hl 0 rfl) ?_
        obtain ⟨p5, e_p5, h⟩ := md_ob h
        refine hp_callVi (As := []) (rest := []) cx hw (km_X12_isFine l D cA E _ ad hj hE n σ  p5 e_p5) (cwV 0 cx.2.2.2.2.2.1 (md_giV mm_64 mm_65 mm_66 mm_5 mm_67) rfl rfl rfl hd_X12_isFine ⟨Nat.le_of_ble_eq_true rfl, Nat.le_of_ble_eq_true rfl⟩) md_at0 rfl rfl hl.1 rfl (Nat.le_of_ble_eq_true rfl) dX12_grant_48 ⟨Nat.le_refl _, Nat.le_refl _⟩ (fun r u H locs hp hw => ?_)
        obtain ⟨rfl, rfl⟩ := hp
        refine lv_if_eq (tgt := 79) cx.1 cx.2.1 dX12_grant_51 (by decide) (fun c51 => ?_) (fun c51 => ?_)
        · have h := md_ip c51 h
          obtain rfl := Option.some.inj h
          exact K _ _ _ hw (lv_sub hl [0] rfl)
        · have h := md_in c51 h
          refine lv_aload_n cx.1 cx.2.1 dX12_grant_54 rfl (lv_at hl 0 rfl) ?_
          refine md_gI (k := 8) cx hw hin12c rfl (by decide) (List.mem_cons_of_mem _ mm_15) dX12_grant_55 ?_
          refine lv_iconst (v := 1) cx.1 cx.2.1 dX12_grant_58 (by decide) ?_
          refine lv_icmp_ne (tgt := 79) cx.1 cx.2.1 dX12_grant_59 (by decide) (fun c59 => ?_) (fun c59 => ?_)
          · have h := md_in c59 h
            obtain rfl := Option.some.inj h
            exact K _ _ _ hw (lv_sub hl [0] rfl)
          · have h := md_ip c59 h
            refine lv_aload_n cx.1 cx.2.1 dX12_grant_62 rfl (lv_at hl 0 rfl) ?_
            refine lv_aload_n cx.1 cx.2.1 dX12_grant_63 rfl (lv_at hl 0 rfl) ?_
            refine md_gI (k := 20) cx hw hin12c rfl (by decide) (List.mem_cons_of_mem _ mm_121) dX12_grant_64 ?_
            obtain ⟨p6, e_p6, h⟩ := md_ob h
            refine hp_callVv (As := [.int (mI p5.2 20)]) (rest := []) cx hw (km_X12_right l D cA E _ ad hj hE n p5.2 ((mI p5.2 20)) p6 e_p6) (cwV 1 cx.2.2.2.2.2.1 (md_giV mm_165 mm_166 mm_167 mm_5 mm_168) rfl rfl rfl hd_X12_right ⟨Nat.le_of_ble_eq_true rfl, Nat.le_of_ble_eq_true rfl⟩) md_at0 rfl rfl hl.1 rfl (Nat.le_of_ble_eq_true rfl) dX12_grant_67 ⟨Nat.le_refl _, Nat.le_refl _⟩ (fun u H locs hp hw => ?_)
            obtain rfl := hp
            refine lv_aload_n cx.1 cx.2.1 dX12_grant_70 rfl (lv_at hl 0 rfl) ?_
            refine lv_bipush (v := 59) cx.1 cx.2.1 dX12_grant_71 (by decide) ?_
            obtain ⟨p7, e_p7, h⟩ := md_ob h
            refine hp_callVv (As := [.int 59]) (rest := []) cx hw (km_X12_sign l D cA E _ ad hj hE n p6.2 (59 : Int32) p7 e_p7) (cwV 1 cx.2.2.2.2.2.1 (md_giV mm_161 mm_162 mm_163 mm_5 mm_164) rfl rfl rfl hd_X12_sign ⟨Nat.le_of_ble_eq_true rfl, Nat.le_of_ble_eq_true rfl⟩) md_at0 rfl rfl hl.1 rfl (Nat.le_of_ble_eq_true rfl) dX12_grant_73 ⟨Nat.le_refl _, Nat.le_refl _⟩ (fun u H locs hp hw => ?_)
            obtain rfl := hp
            refine lv_goto (tgt := 47) cx.1 cx.2.1 dX12_grant_76 (by decide) ?_
            exact ih p7.2 q _ _ _ h hw (lv_sub hl [0] rfl) K
    obtain ⟨q8, e_q8, h⟩ := md_ob h
    refine L47 n p4.2 q8 _ _ _ e_q8 hw (lv_sub hl [0] rfl) (fun H locs ls hw hl => ?_)
    refine lv_aload_n cx.1 cx.2.1 dX12_grant_79 rfl (lv_at hl 0 rfl) ?_
    refine lv_bipush (v := 125) cx.1 cx.2.1 dX12_grant_80 (by decide) ?_
    obtain ⟨p9, e_p9, h⟩ := md_ob h
    refine hp_callVv (As := [.int 125]) (rest := []) cx hw (km_X12_sign l D cA E _ ad hj hE n q8 (125 : Int32) p9 e_p9) (cwV 1 cx.2.2.2.2.2.1 (md_giV mm_161 mm_162 mm_163 mm_5 mm_164) rfl rfl rfl hd_X12_sign ⟨Nat.le_of_ble_eq_true rfl, Nat.le_of_ble_eq_true rfl⟩) md_at0 rfl rfl hl.1 rfl (Nat.le_of_ble_eq_true rfl) dX12_grant_82 ⟨Nat.le_refl _, Nat.le_refl _⟩ (fun u H locs hp hw => ?_)
    obtain rfl := hp
    refine lv_aload_n cx.1 cx.2.1 dX12_grant_85 rfl (lv_at hl 0 rfl) ?_
    refine lv_dup cx.1 cx.2.1 dX12_grant_86 rfl ?_
    refine md_gI (k := 20) cx hw hin12c rfl (by decide) (List.mem_cons_of_mem _ mm_121) dX12_grant_87 ?_
    refine lv_iconst (v := 1) cx.1 cx.2.1 dX12_grant_90 (by decide) ?_
    refine lv_iadd cx.1 cx.2.1 dX12_grant_91 ?_
    obtain ⟨σ10, e_σ10, h⟩ := md_ob h
    refine md_pI (k := 20) cx hw hin12c rfl (by decide) rfl (List.mem_cons_of_mem _ mm_121) rfl e_σ10 dX12_grant_92 (fun H locs hw => ?_)
    exact hp_vret cx hw (md_retv h) dX12_grant_95
  · have h := md_ip c6 h
    refine lv_aload_n cx.1 cx.2.1 dX12_grant_9 rfl (lv_at hl 0 rfl) ?_
    refine lv_iconst (v := 4) cx.1 cx.2.1 dX12_grant_10 (by decide) ?_
    obtain ⟨p11, e_p11, h⟩ := md_ob h
    refine hp_callVv (As := [.int 4]) (rest := []) cx hw (km_X12_fails l D cA E _ ad hj hE n σ0 (4 : Int32) p11 e_p11) (cwV 1 cx.2.2.2.2.2.1 (md_giV mm_54 mm_55 mm_56 mm_5 mm_57) rfl rfl rfl hd_X12_fails ⟨Nat.le_of_ble_eq_true rfl, Nat.le_of_ble_eq_true rfl⟩) md_at0 rfl rfl hl.1 rfl (Nat.le_of_ble_eq_true rfl) dX12_grant_11 ⟨Nat.le_refl _, Nat.le_refl _⟩ (fun u H locs hp hw => ?_)
    obtain rfl := hp
    exact hp_vret cx hw (md_retv h) dX12_grant_14
set_option maxHeartbeats 4000000 in
set_option maxRecDepth 100000 in
theorem km_X12_moduleOf (l : Launch) (D : va_G) (cA : Nat → ClassId) (E : hp_N) (sz : Nat) (ad : Nat → Nat) (hj : md_inj ad) (hE : md_E E) (n : Nat) (σ0 : md_S) (a1 : Int64) (p : (Int32 × md_S)) (h : f_X12_moduleOf n σ0 a1 = some p) : Met l yX12_moduleOf (Cond.code yX12_moduleOf cX12_moduleOf 4 (some .int) :: v_MOD) ({ frames := 0, cells := 0, slots := 0, locals := 0 }) (hp_Pc D vwCl (hp_Tl cA) E sz (md_pic cA ad σ0) [.ref (ad 137), .long a1]) (hp_Qi D vwCl (hp_Tl cA) sz (md_pic cA ad σ0) (fun r u => r = p.1 ∧ u = md_pic cA ad p.2)) 0 0 (hp_A (md_pic cA ad σ0) sz) := by
  refine hp_ofW (cc := cX12_moduleOf) (maxL := 4) (ret := (some .int)) (by decide) rfl (Nat.le_of_ble_eq_true rfl) ?_
  intro pp ee ss mm bb mt cd ls cx hsz hw hl
  have hl : lv_has ls 4 [(0, .ref (ad 137)), (1, .long a1)] := hl
  refine lv_iconst (v := 0) cx.1 cx.2.1 dX12_moduleOf_0 (by decide) ?_
  refine lv_istore_n (lv' := [(3, .int 0), (0, .ref (ad 137)), (1, .long a1)]) cx.1 cx.2.1 dX12_moduleOf_1 rfl hl (by decide) rfl (fun ls hl => ?_)
  have L2 : ∀ (j : Nat) (σ : md_S) (l1 : Int64) (l3 : Int32) (q : ((Int32 × md_S) ⊕ (md_S × Int32))) (H : Heap) (locs : List Loc) (ls : Array Slot), f_X12_moduleOf_L2 n l1 j σ l3 = some q → hp_w D vwCl (hp_Tl cA) E (hp_A (md_pic cA ad σ0) sz) ss H locs (md_pic cA ad σ) → lv_has ls 4 [(0, .ref (ad 137)), (1, .long l1), (3, .int l3)] → (∀ t, q = Sum.inr t → ∀ (H : Heap) (locs : List Loc) (ls : Array Slot), hp_w D vwCl (hp_Tl cA) E (hp_A (md_pic cA ad σ0) sz) ss H locs (md_pic cA ad t.1) → lv_has ls 4 [] → W pp l ee ({ frames := 0, cells := 0, slots := 0, locals := 0 }) ss mm [.ref (ad 137), .long a1].toArray bb mt cd H locs 0 0 (MQ bb (hp_Qi D vwCl (hp_Tl cA) sz (md_pic cA ad σ0) (fun r u => r = p.1 ∧ u = md_pic cA ad p.2)) [.ref (ad 137), .long a1].toArray ss 0 0 (hp_A (md_pic cA ad σ0) sz)) (F0 mm 29 ls [])) → (∀ r, q = Sum.inl r → r = p) → W pp l ee ({ frames := 0, cells := 0, slots := 0, locals := 0 }) ss mm [.ref (ad 137), .long a1].toArray bb mt cd H locs 0 0 (MQ bb (hp_Qi D vwCl (hp_Tl cA) sz (md_pic cA ad σ0) (fun r u => r = p.1 ∧ u = md_pic cA ad p.2)) [.ref (ad 137), .long a1].toArray ss 0 0 (hp_A (md_pic cA ad σ0) sz)) (F0 mm 2 ls []) := by
    intro j
    induction j with
    | zero => intro σ l1 l3 q H locs ls h; exact nomatch h
    | succ j ih =>
      intro σ l1 l3 q H locs ls h hw hl K KR
      refine lv_iload_n cx.1 cx.2.1 dX12_moduleOf_2 rfl (lv_at hl 2 rfl) ?_
      refine lv_aload_n cx.1 cx.2.1 dX12_moduleOf_3 rfl (lv_at hl 0 rfl) ?_
      refine md_gI (k := 25) cx hw hin12c rfl (by decide) (List.mem_cons_of_mem _ mm_137) dX12_moduleOf_4 ?_
      refine lv_icmp_ge (tgt := 29) cx.1 cx.2.1 dX12_moduleOf_7 (by decide) (fun c7 => ?_) (fun c7 => ?_)
      · have h := md_ip c7 h
        exact K _ (Option.some.inj h).symm _ _ _ hw (lv_sub hl [] rfl)
      · have h := md_in c7 h
        refine lv_aload_n cx.1 cx.2.1 dX12_moduleOf_10 rfl (lv_at hl 0 rfl) ?_
        refine md_gR (k := 26) cx hw hin12c (by decide) (by decide) (List.mem_cons_of_mem _ mm_169) dX12_moduleOf_11 ?_
        refine lv_iload_n cx.1 cx.2.1 dX12_moduleOf_14 rfl (lv_at hl 2 rfl) ?_
        obtain ⟨v1, e_v1, h⟩ := md_ob h
        refine md_lJ (k := 26) hj cx hw (by decide) rfl rfl rfl e_v1 dX12_moduleOf_15 ?_
        refine lv_lload_n cx.1 cx.2.1 dX12_moduleOf_16 rfl (lv_at hl 1 rfl) ?_
        refine W.lcmp cx.1 cx.2.1 dX12_moduleOf_17 ?_
        refine lv_if_ne (tgt := 23) cx.1 cx.2.1 dX12_moduleOf_18 (by decide) (fun c18 => ?_) (fun c18 => ?_)
        · have h := md_in c18 h
          refine lv_iinc (v := (l3 + 1)) (lv' := [(3, .int (l3 + 1)), (0, .ref (ad 137)), (1, .long l1)]) cx.1 cx.2.1 dX12_moduleOf_23 hl (k := 2) rfl rfl (by decide) rfl (fun ls hl => ?_)
          refine lv_goto (tgt := 2) cx.1 cx.2.1 dX12_moduleOf_26 (by decide) ?_
          exact ih σ l1 ((l3 + 1)) q _ _ _ h hw (lv_sub hl [1, 2, 0] rfl) K KR
        · have h := md_ip c18 h
          refine lv_iload_n cx.1 cx.2.1 dX12_moduleOf_21 rfl (lv_at hl 2 rfl) ?_
          exact hp_iret cx hw (md_ret (congrArg some (KR _ (Option.some.inj h).symm))) dX12_moduleOf_22
  obtain ⟨q2, e_q2, h⟩ := md_ob h
  refine L2 n σ0 a1 0 q2 _ _ _ e_q2 hw (lv_sub hl [1, 2, 0] rfl) (fun t2 hq2 H locs ls hw hl => ?_) (fun r hr => by subst hr; exact Option.some.inj h)
  subst hq2
  have h := md_inr h
  refine lv_iconst (v := (-1)) cx.1 cx.2.1 dX12_moduleOf_29 (by decide) ?_
  exact hp_iret cx hw (md_ret h) dX12_moduleOf_30
set_option maxHeartbeats 4000000 in
set_option maxRecDepth 100000 in
theorem km_X12_fieldsAbove (l : Launch) (D : va_G) (cA : Nat → ClassId) (E : hp_N) (sz : Nat) (ad : Nat → Nat) (hj : md_inj ad) (hE : md_E E) (n : Nat) (σ0 : md_S) (a1 : Int32) (p : (Int32 × md_S)) (h : f_X12_fieldsAbove n σ0 a1 = some p) : Met l yX12_fieldsAbove (Cond.code yX12_fieldsAbove cX12_fieldsAbove 4 (some .int) :: v_MOD) ({ frames := 0, cells := 0, slots := 0, locals := 0 }) (hp_Pc D vwCl (hp_Tl cA) E sz (md_pic cA ad σ0) [.ref (ad 137), .int a1]) (hp_Qi D vwCl (hp_Tl cA) sz (md_pic cA ad σ0) (fun r u => r = p.1 ∧ u = md_pic cA ad p.2)) 0 0 (hp_A (md_pic cA ad σ0) sz) := by
  refine hp_ofW (cc := cX12_fieldsAbove) (maxL := 4) (ret := (some .int)) (by decide) rfl (Nat.le_of_ble_eq_true rfl) ?_
  intro pp ee ss mm bb mt cd ls cx hsz hw hl
  have hl : lv_has ls 4 [(0, .ref (ad 137)), (1, .int a1)] := hl
  refine lv_iconst (v := 0) cx.1 cx.2.1 dX12_fieldsAbove_0 (by decide) ?_
  refine lv_istore_n (lv' := [(2, .int 0), (0, .ref (ad 137)), (1, .int a1)]) cx.1 cx.2.1 dX12_fieldsAbove_1 rfl hl (by decide) rfl (fun ls hl => ?_)
  refine lv_aload_n cx.1 cx.2.1 dX12_fieldsAbove_2 rfl (lv_at hl 1 rfl) ?_
  refine md_gR (k := 27) cx hw hin12c (by decide) (by decide) (List.mem_cons_of_mem _ mm_170) dX12_fieldsAbove_3 ?_
  refine lv_iload_n cx.1 cx.2.1 dX12_fieldsAbove_6 rfl (lv_at hl 2 rfl) ?_
  obtain ⟨v1, e_v1, h⟩ := md_ob h
  refine md_lI (k := 27) hj cx hw (by decide) rfl rfl rfl e_v1 dX12_fieldsAbove_7 ?_
  refine lv_istore_n (lv' := [(3, .int v1), (2, .int 0), (0, .ref (ad 137)), (1, .int a1)]) cx.1 cx.2.1 dX12_fieldsAbove_8 rfl hl (by decide) rfl (fun ls hl => ?_)
  have L9 : ∀ (j : Nat) (σ : md_S) (l2 : Int32) (l3 : Int32) (q : (md_S × Int32 × Int32)) (H : Heap) (locs : List Loc) (ls : Array Slot), f_X12_fieldsAbove_L9 n j σ l2 l3 = some q → hp_w D vwCl (hp_Tl cA) E (hp_A (md_pic cA ad σ0) sz) ss H locs (md_pic cA ad σ) → lv_has ls 4 [(0, .ref (ad 137)), (2, .int l2), (3, .int l3)] → (∀ (H : Heap) (locs : List Loc) (ls : Array Slot), hp_w D vwCl (hp_Tl cA) E (hp_A (md_pic cA ad σ0) sz) ss H locs (md_pic cA ad q.1) → lv_has ls 4 [(2, .int q.2.1)] → W pp l ee ({ frames := 0, cells := 0, slots := 0, locals := 0 }) ss mm [.ref (ad 137), .int a1].toArray bb mt cd H locs 0 0 (MQ bb (hp_Qi D vwCl (hp_Tl cA) sz (md_pic cA ad σ0) (fun r u => r = p.1 ∧ u = md_pic cA ad p.2)) [.ref (ad 137), .int a1].toArray ss 0 0 (hp_A (md_pic cA ad σ0) sz)) (F0 mm 33 ls [])) → W pp l ee ({ frames := 0, cells := 0, slots := 0, locals := 0 }) ss mm [.ref (ad 137), .int a1].toArray bb mt cd H locs 0 0 (MQ bb (hp_Qi D vwCl (hp_Tl cA) sz (md_pic cA ad σ0) (fun r u => r = p.1 ∧ u = md_pic cA ad p.2)) [.ref (ad 137), .int a1].toArray ss 0 0 (hp_A (md_pic cA ad σ0) sz)) (F0 mm 9 ls []) := by
    intro j
    induction j with
    | zero => intro σ l2 l3 q H locs ls h; exact nomatch h
    | succ j ih =>
      intro σ l2 l3 q H locs ls h hw hl K
      refine lv_iload_n cx.1 cx.2.1 dX12_fieldsAbove_9 rfl (lv_at hl 2 rfl) ?_
      refine lv_iconst (v := (-1)) cx.1 cx.2.1 dX12_fieldsAbove_10 (by decide) ?_
      refine lv_icmp_eq (tgt := 33) cx.1 cx.2.1 dX12_fieldsAbove_11 (by decide) (fun c11 => ?_) (fun c11 => ?_)
      · have h := md_ip c11 h
        obtain rfl := Option.some.inj h
        exact K _ _ _ hw (lv_sub hl [1] rfl)
      · have h := md_in c11 h
        refine lv_iload_n cx.1 cx.2.1 dX12_fieldsAbove_14 rfl (lv_at hl 1 rfl) ?_
        refine lv_aload_n cx.1 cx.2.1 dX12_fieldsAbove_15 rfl (lv_at hl 0 rfl) ?_
        refine md_gR (k := 28) cx hw hin12c (by decide) (by decide) (List.mem_cons_of_mem _ mm_171) dX12_fieldsAbove_16 ?_
        refine lv_iload_n cx.1 cx.2.1 dX12_fieldsAbove_19 rfl (lv_at hl 2 rfl) ?_
        obtain ⟨v2, e_v2, h⟩ := md_ob h
        refine md_lI (k := 28) hj cx hw (by decide) rfl rfl rfl e_v2 dX12_fieldsAbove_20 ?_
        refine lv_iadd cx.1 cx.2.1 dX12_fieldsAbove_21 ?_
        refine lv_istore_n (lv' := [(2, .int (l2 + v2)), (0, .ref (ad 137)), (3, .int l3)]) cx.1 cx.2.1 dX12_fieldsAbove_22 rfl hl (by decide) rfl (fun ls hl => ?_)
        refine lv_aload_n cx.1 cx.2.1 dX12_fieldsAbove_23 rfl (lv_at hl 1 rfl) ?_
        refine md_gR (k := 27) cx hw hin12c (by decide) (by decide) (List.mem_cons_of_mem _ mm_170) dX12_fieldsAbove_24 ?_
        refine lv_iload_n cx.1 cx.2.1 dX12_fieldsAbove_27 rfl (lv_at hl 2 rfl) ?_
        obtain ⟨v3, e_v3, h⟩ := md_ob h
        refine md_lI (k := 27) hj cx hw (by decide) rfl rfl rfl e_v3 dX12_fieldsAbove_28 ?_
        refine lv_istore_n (lv' := [(3, .int v3), (2, .int (l2 + v2)), (0, .ref (ad 137))]) cx.1 cx.2.1 dX12_fieldsAbove_29 rfl hl (by decide) rfl (fun ls hl => ?_)
        refine lv_goto (tgt := 9) cx.1 cx.2.1 dX12_fieldsAbove_30 (by decide) ?_
        exact ih σ ((l2 + v2)) v3 q _ _ _ h hw (lv_sub hl [2, 1, 0] rfl) K
  obtain ⟨q4, e_q4, h⟩ := md_ob h
  refine L9 n σ0 0 v1 q4 _ _ _ e_q4 hw (lv_sub hl [2, 1, 0] rfl) (fun H locs ls hw hl => ?_)
  refine lv_iload_n cx.1 cx.2.1 dX12_fieldsAbove_33 rfl (lv_at hl 0 rfl) ?_
  exact hp_iret cx hw (md_ret h) dX12_fieldsAbove_34
set_option maxHeartbeats 4000000 in
set_option maxRecDepth 100000 in
theorem km_X12_fieldOf (l : Launch) (D : va_G) (cA : Nat → ClassId) (E : hp_N) (sz : Nat) (ad : Nat → Nat) (hj : md_inj ad) (hE : md_E E) (n : Nat) (σ0 : md_S) (a1 : Int32) (a2 : Int64) (p : (Int32 × md_S)) (h : f_X12_fieldOf n σ0 a1 a2 = some p) : Met l yX12_fieldOf (Cond.code yX12_fieldOf cX12_fieldOf 6 (some .int) :: v_MOD) ({ frames := 1, cells := 0, slots := 0, locals := 23 }) (hp_Pc D vwCl (hp_Tl cA) E sz (md_pic cA ad σ0) [.ref (ad 137), .int a1, .long a2]) (hp_Qi D vwCl (hp_Tl cA) sz (md_pic cA ad σ0) (fun r u => r = p.1 ∧ u = md_pic cA ad p.2)) 0 0 (hp_A (md_pic cA ad σ0) sz) := by
  refine hp_ofW (cc := cX12_fieldOf) (maxL := 6) (ret := (some .int)) (by decide) rfl (Nat.le_of_ble_eq_true rfl) ?_
  intro pp ee ss mm bb mt cd ls cx hsz hw hl
  have hl : lv_has ls 6 [(0, .ref (ad 137)), (1, .int a1), (2, .long a2)] := hl
  refine lv_iload_n cx.1 cx.2.1 dX12_fieldOf_0 rfl (lv_at hl 1 rfl) ?_
  refine lv_istore (lv' := [(4, .int a1), (0, .ref (ad 137)), (1, .int a1), (2, .long a2)]) cx.1 cx.2.1 dX12_fieldOf_1 hl (by decide) rfl (fun ls hl => ?_)
  have L3 : ∀ (j : Nat) (σ : md_S) (l2 : Int64) (l4 : Int32) (q : ((Int32 × md_S) ⊕ (md_S × Int32))) (H : Heap) (locs : List Loc) (ls : Array Slot), f_X12_fieldOf_L3 n l2 j σ l4 = some q → hp_w D vwCl (hp_Tl cA) E (hp_A (md_pic cA ad σ0) sz) ss H locs (md_pic cA ad σ) → lv_has ls 6 [(0, .ref (ad 137)), (2, .long l2), (4, .int l4)] → (∀ t, q = Sum.inr t → ∀ (H : Heap) (locs : List Loc) (ls : Array Slot), hp_w D vwCl (hp_Tl cA) E (hp_A (md_pic cA ad σ0) sz) ss H locs (md_pic cA ad t.1) → lv_has ls 6 [] → W pp l ee ({ frames := 1, cells := 0, slots := 0, locals := 23 }) ss mm [.ref (ad 137), .int a1, .long a2].toArray bb mt cd H locs 0 0 (MQ bb (hp_Qi D vwCl (hp_Tl cA) sz (md_pic cA ad σ0) (fun r u => r = p.1 ∧ u = md_pic cA ad p.2)) [.ref (ad 137), .int a1, .long a2].toArray ss 0 0 (hp_A (md_pic cA ad σ0) sz)) (F0 mm 69 ls [])) → (∀ r, q = Sum.inl r → r = p) → W pp l ee ({ frames := 1, cells := 0, slots := 0, locals := 23 }) ss mm [.ref (ad 137), .int a1, .long a2].toArray bb mt cd H locs 0 0 (MQ bb (hp_Qi D vwCl (hp_Tl cA) sz (md_pic cA ad σ0) (fun r u => r = p.1 ∧ u = md_pic cA ad p.2)) [.ref (ad 137), .int a1, .long a2].toArray ss 0 0 (hp_A (md_pic cA ad σ0) sz)) (F0 mm 3 ls []) := by
    intro j
    induction j with
    | zero => intro σ l2 l4 q H locs ls h; exact nomatch h
    | succ j ih =>
      intro σ l2 l4 q H locs ls h hw hl K KR
      refine lv_iload cx.1 cx.2.1 dX12_fieldOf_3 (lv_at hl 2 rfl) ?_
      refine lv_iconst (v := (-1)) cx.1 cx.2.1 dX12_fieldOf_5 (by decide) ?_
      refine lv_icmp_eq (tgt := 69) cx.1 cx.2.1 dX12_fieldOf_6 (by decide) (fun c6 => ?_) (fun c6 => ?_)
      · have h := md_ip c6 h
        exact K _ (Option.some.inj h).symm _ _ _ hw (lv_sub hl [] rfl)
      · have h := md_in c6 h
        refine lv_iconst (v := 0) cx.1 cx.2.1 dX12_fieldOf_9 (by decide) ?_
        refine lv_istore (lv' := [(5, .int 0), (0, .ref (ad 137)), (2, .long l2), (4, .int l4)]) cx.1 cx.2.1 dX12_fieldOf_10 hl (by decide) rfl (fun ls hl => ?_)
        have L12 : ∀ (j : Nat) (σ : md_S) (l2 : Int64) (l4 : Int32) (l5 : Int32) (q : ((Int32 × md_S) ⊕ (md_S × Int32))) (H : Heap) (locs : List Loc) (ls : Array Slot), f_X12_fieldOf_L12 n l2 l4 j σ l5 = some q → hp_w D vwCl (hp_Tl cA) E (hp_A (md_pic cA ad σ0) sz) ss H locs (md_pic cA ad σ) → lv_has ls 6 [(0, .ref (ad 137)), (2, .long l2), (4, .int l4), (5, .int l5)] → (∀ t, q = Sum.inr t → ∀ (H : Heap) (locs : List Loc) (ls : Array Slot), hp_w D vwCl (hp_Tl cA) E (hp_A (md_pic cA ad σ0) sz) ss H locs (md_pic cA ad t.1) → lv_has ls 6 [(0, .ref (ad 137)), (2, .long l2), (4, .int l4)] → W pp l ee ({ frames := 1, cells := 0, slots := 0, locals := 23 }) ss mm [.ref (ad 137), .int a1, .long a2].toArray bb mt cd H locs 0 0 (MQ bb (hp_Qi D vwCl (hp_Tl cA) sz (md_pic cA ad σ0) (fun r u => r = p.1 ∧ u = md_pic cA ad p.2)) [.ref (ad 137), .int a1, .long a2].toArray ss 0 0 (hp_A (md_pic cA ad σ0) sz)) (F0 mm 57 ls [])) → (∀ r, q = Sum.inl r → r = p) → W pp l ee ({ frames := 1, cells := 0, slots := 0, locals := 23 }) ss mm [.ref (ad 137), .int a1, .long a2].toArray bb mt cd H locs 0 0 (MQ bb (hp_Qi D vwCl (hp_Tl cA) sz (md_pic cA ad σ0) (fun r u => r = p.1 ∧ u = md_pic cA ad p.2)) [.ref (ad 137), .int a1, .long a2].toArray ss 0 0 (hp_A (md_pic cA ad σ0) sz)) (F0 mm 12 ls []) := by
          intro j
          induction j with
          | zero => intro σ l2 l4 l5 q H locs ls h; exact nomatch h
          | succ j ih =>
            intro σ l2 l4 l5 q H locs ls h hw hl K KR
            refine lv_iload cx.1 cx.2.1 dX12_fieldOf_12 (lv_at hl 3 rfl) ?_
            refine lv_aload_n cx.1 cx.2.1 dX12_fieldOf_14 rfl (lv_at hl 0 rfl) ?_
            refine md_gR (k := 28) cx hw hin12c (by decide) (by decide) (List.mem_cons_of_mem _ mm_171) dX12_fieldOf_15 ?_
            refine lv_iload cx.1 cx.2.1 dX12_fieldOf_18 (lv_at hl 2 rfl) ?_
            obtain ⟨v1, e_v1, h⟩ := md_ob h
            refine md_lI (k := 28) hj cx hw (by decide) rfl rfl rfl e_v1 dX12_fieldOf_20 ?_
            refine lv_icmp_ge (tgt := 57) cx.1 cx.2.1 dX12_fieldOf_21 (by decide) (fun c21 => ?_) (fun c21 => ?_)
            · have h := md_ip c21 h
              exact K _ (Option.some.inj h).symm _ _ _ hw (lv_sub hl [0, 1, 2] rfl)
            · have h := md_in c21 h
              refine lv_aload_n cx.1 cx.2.1 dX12_fieldOf_24 rfl (lv_at hl 0 rfl) ?_
              refine md_gR (k := 29) cx hw hin12c (by decide) (by decide) (List.mem_cons_of_mem _ mm_172) dX12_fieldOf_25 ?_
              refine lv_iconst (v := 4) cx.1 cx.2.1 dX12_fieldOf_28 (by decide) ?_
              refine lv_iload cx.1 cx.2.1 dX12_fieldOf_29 (lv_at hl 2 rfl) ?_
              refine lv_imul cx.1 cx.2.1 dX12_fieldOf_31 ?_
              refine lv_iload cx.1 cx.2.1 dX12_fieldOf_32 (lv_at hl 3 rfl) ?_
              refine lv_iadd cx.1 cx.2.1 dX12_fieldOf_34 ?_
              obtain ⟨v2, e_v2, h⟩ := md_ob h
              refine md_lJ (k := 29) hj cx hw (by decide) rfl rfl rfl e_v2 dX12_fieldOf_35 ?_
              refine lv_lload_n cx.1 cx.2.1 dX12_fieldOf_36 rfl (lv_at hl 1 rfl) ?_
              refine W.lcmp cx.1 cx.2.1 dX12_fieldOf_37 ?_
              refine lv_if_ne (tgt := 51) cx.1 cx.2.1 dX12_fieldOf_38 (by decide) (fun c38 => ?_) (fun c38 => ?_)
              · have h := md_in c38 h
                refine lv_iinc (v := (l5 + 1)) (lv' := [(5, .int (l5 + 1)), (0, .ref (ad 137)), (2, .long l2), (4, .int l4)]) cx.1 cx.2.1 dX12_fieldOf_51 hl (k := 3) rfl rfl (by decide) rfl (fun ls hl => ?_)
                refine lv_goto (tgt := 12) cx.1 cx.2.1 dX12_fieldOf_54 (by decide) ?_
                exact ih σ l2 l4 ((l5 + 1)) q _ _ _ h hw (lv_sub hl [1, 2, 3, 0] rfl) K KR
              · have h := md_ip c38 h
                refine lv_aload_n cx.1 cx.2.1 dX12_fieldOf_41 rfl (lv_at hl 0 rfl) ?_
                refine lv_iload cx.1 cx.2.1 dX12_fieldOf_42 (lv_at hl 2 rfl) ?_
                obtain ⟨p3, e_p3, h⟩ := md_ob h
                refine hp_callVi (As := [.int l4]) (rest := []) cx hw (km_X12_fieldsAbove l D cA E _ ad hj hE n σ l4 p3 e_p3) (cwV 1 cx.2.2.2.2.2.1 (md_giV mm_173 mm_174 mm_175 mm_5 mm_176) rfl rfl rfl hd_X12_fieldsAbove ⟨Nat.le_of_ble_eq_true rfl, Nat.le_of_ble_eq_true rfl⟩) md_at0 rfl rfl hl.1 rfl (Nat.le_of_ble_eq_true rfl) dX12_fieldOf_44 ⟨Nat.le_refl _, Nat.le_refl _⟩ (fun r u H locs hp hw => ?_)
                obtain ⟨rfl, rfl⟩ := hp
                refine lv_iload cx.1 cx.2.1 dX12_fieldOf_47 (lv_at hl 3 rfl) ?_
                refine lv_iadd cx.1 cx.2.1 dX12_fieldOf_49 ?_
                exact hp_iret cx hw (md_ret (congrArg some (KR _ (Option.some.inj h).symm))) dX12_fieldOf_50
        obtain ⟨q4, e_q4, h⟩ := md_ob h
        refine L12 n σ l2 l4 0 q4 _ _ _ e_q4 hw (lv_sub hl [1, 2, 3, 0] rfl) (fun t4 hq4 H locs ls hw hl => ?_) (fun r hr => by subst hr; exact KR _ (Option.some.inj h).symm)
        subst hq4
        have h := md_inr h
        refine lv_aload_n cx.1 cx.2.1 dX12_fieldOf_57 rfl (lv_at hl 0 rfl) ?_
        refine md_gR (k := 27) cx hw hin12c (by decide) (by decide) (List.mem_cons_of_mem _ mm_170) dX12_fieldOf_58 ?_
        refine lv_iload cx.1 cx.2.1 dX12_fieldOf_61 (lv_at hl 2 rfl) ?_
        obtain ⟨v5, e_v5, h⟩ := md_ob h
        refine md_lI (k := 27) hj cx hw (by decide) rfl rfl rfl e_v5 dX12_fieldOf_63 ?_
        refine lv_istore (lv' := [(4, .int v5), (0, .ref (ad 137)), (2, .long l2)]) cx.1 cx.2.1 dX12_fieldOf_64 hl (by decide) rfl (fun ls hl => ?_)
        refine lv_goto (tgt := 3) cx.1 cx.2.1 dX12_fieldOf_66 (by decide) ?_
        exact ih t4.1 l2 v5 q _ _ _ h hw (lv_sub hl [1, 2, 0] rfl) K KR
  obtain ⟨q6, e_q6, h⟩ := md_ob h
  refine L3 n σ0 a2 a1 q6 _ _ _ e_q6 hw (lv_sub hl [1, 3, 0] rfl) (fun t6 hq6 H locs ls hw hl => ?_) (fun r hr => by subst hr; exact Option.some.inj h)
  subst hq6
  have h := md_inr h
  refine lv_iconst (v := (-1)) cx.1 cx.2.1 dX12_fieldOf_69 (by decide) ?_
  exact hp_iret cx hw (md_ret h) dX12_fieldOf_70
set_option maxHeartbeats 4000000 in
set_option maxRecDepth 100000 in
theorem km_X12_readField (l : Launch) (D : va_G) (cA : Nat → ClassId) (E : hp_N) (sz : Nat) (ad : Nat → Nat) (hj : md_inj ad) (hE : md_E E) (n : Nat) (σ0 : md_S) (a1 : Int32) (p : (Int32 × md_S)) (h : f_X12_readField n σ0 a1 = some p) : Met l yX12_readField (Cond.code yX12_readField cX12_readField 2 none :: v_MOD) ({ frames := 8, cells := 0, slots := 0, locals := 198 }) (hp_Pc D vwCl (hp_Tl cA) E sz (md_pic cA ad σ0) [.ref (ad 137), .int a1]) (hp_Qv D vwCl (hp_Tl cA) sz (md_pic cA ad σ0) (fun u => u = md_pic cA ad p.2)) 0 0 (hp_A (md_pic cA ad σ0) sz) := by
  refine hp_ofW (cc := cX12_readField) (maxL := 2) (ret := none) (by decide) rfl (Nat.le_of_ble_eq_true rfl) ?_
  intro pp ee ss mm bb mt cd ls cx hsz hw hl
  have hl : lv_has ls 2 [(0, .ref (ad 137)), (1, .int a1)] := hl
  refine lv_aload_n cx.1 cx.2.1 dX12_readField_0 rfl (lv_at hl 0 rfl) ?_
  obtain ⟨p1, e_p1, h⟩ := md_ob h
  refine hp_callVi (As := []) (rest := []) cx hw (km_X12_isName l D cA E _ ad hj hE n σ0  p1 e_p1) (cwV 0 cx.2.2.2.2.2.1 (md_giV mm_107 mm_108 mm_109 mm_5 mm_110) rfl rfl rfl hd_X12_isName ⟨Nat.le_of_ble_eq_true rfl, Nat.le_of_ble_eq_true rfl⟩) md_at0 rfl rfl hl.1 rfl (Nat.le_of_ble_eq_true rfl) dX12_readField_1 ⟨Nat.le_refl _, Nat.le_refl _⟩ (fun r u H locs hp hw => ?_)
  obtain ⟨rfl, rfl⟩ := hp
  refine lv_if_ne (tgt := 8) cx.1 cx.2.1 dX12_readField_4 (by decide) (fun c4 => ?_) (fun c4 => ?_)
  · have h := md_in c4 h
    refine lv_aload_n cx.1 cx.2.1 dX12_readField_8 rfl (lv_at hl 0 rfl) ?_
    refine md_gR (k := 28) cx hw hin12c (by decide) (by decide) (List.mem_cons_of_mem _ mm_171) dX12_readField_9 ?_
    refine lv_iload_n cx.1 cx.2.1 dX12_readField_12 rfl (lv_at hl 1 rfl) ?_
    obtain ⟨v2, e_v2, h⟩ := md_ob h
    refine md_lI (k := 28) hj cx hw (by decide) rfl rfl rfl e_v2 dX12_readField_13 ?_
    refine lv_iconst (v := 4) cx.1 cx.2.1 dX12_readField_14 (by decide) ?_
    refine lv_icmp_ne (tgt := 26) cx.1 cx.2.1 dX12_readField_15 (by decide) (fun c15 => ?_) (fun c15 => ?_)
    · have h := md_in c15 h
      refine lv_aload_n cx.1 cx.2.1 dX12_readField_26 rfl (lv_at hl 0 rfl) ?_
      refine lv_iload_n cx.1 cx.2.1 dX12_readField_27 rfl (lv_at hl 1 rfl) ?_
      refine lv_aload_n cx.1 cx.2.1 dX12_readField_28 rfl (lv_at hl 0 rfl) ?_
      refine md_gJ (k := 12) cx hw hin12c rfl (by decide) (List.mem_cons_of_mem _ mm_41) dX12_readField_29 ?_
      obtain ⟨p3, e_p3, h⟩ := md_ob h
      refine hp_callVi (As := [.int a1, .long (mJ p1.2 12)]) (rest := []) cx hw (km_X12_fieldOf l D cA E _ ad hj hE n p1.2 a1 ((mJ p1.2 12)) p3 e_p3) (cwV 2 cx.2.2.2.2.2.1 (md_giV mm_177 mm_178 mm_179 mm_5 mm_180) rfl rfl rfl hd_X12_fieldOf ⟨Nat.le_of_ble_eq_true rfl, Nat.le_of_ble_eq_true rfl⟩) md_at0 rfl rfl hl.1 rfl (Nat.le_of_ble_eq_true rfl) dX12_readField_32 ⟨Nat.le_refl _, Nat.le_refl _⟩ (fun r u H locs hp hw => ?_)
      obtain ⟨rfl, rfl⟩ := hp
      refine lv_iconst (v := (-1)) cx.1 cx.2.1 dX12_readField_35 (by decide) ?_
      refine lv_icmp_eq (tgt := 47) cx.1 cx.2.1 dX12_readField_36 (by decide) (fun c36 => ?_) (fun c36 => ?_)
      · have h := md_ip c36 h
        refine lv_aload_n cx.1 cx.2.1 dX12_readField_47 rfl (lv_at hl 0 rfl) ?_
        refine md_gR (k := 29) cx hw hin12c (by decide) (by decide) (List.mem_cons_of_mem _ mm_172) dX12_readField_48 ?_
        refine lv_iconst (v := 4) cx.1 cx.2.1 dX12_readField_51 (by decide) ?_
        refine lv_iload_n cx.1 cx.2.1 dX12_readField_52 rfl (lv_at hl 1 rfl) ?_
        refine lv_imul cx.1 cx.2.1 dX12_readField_53 ?_
        refine lv_aload_n cx.1 cx.2.1 dX12_readField_54 rfl (lv_at hl 0 rfl) ?_
        refine md_gR (k := 28) cx hw hin12c (by decide) (by decide) (List.mem_cons_of_mem _ mm_171) dX12_readField_55 ?_
        refine lv_iload_n cx.1 cx.2.1 dX12_readField_58 rfl (lv_at hl 1 rfl) ?_
        obtain ⟨v4, e_v4, h⟩ := md_ob h
        refine md_lI (k := 28) hj cx hw (by decide) rfl rfl rfl e_v4 dX12_readField_59 ?_
        refine lv_iadd cx.1 cx.2.1 dX12_readField_60 ?_
        refine lv_aload_n cx.1 cx.2.1 dX12_readField_61 rfl (lv_at hl 0 rfl) ?_
        refine md_gJ (k := 12) cx hw hin12c rfl (by decide) (List.mem_cons_of_mem _ mm_41) dX12_readField_62 ?_
        obtain ⟨σ5, e_σ5, h⟩ := md_ob h
        refine md_sJ (k := 29) hj cx hw (by decide) rfl rfl rfl e_σ5 dX12_readField_65 (fun H locs hw => ?_)
        refine lv_aload_n cx.1 cx.2.1 dX12_readField_66 rfl (lv_at hl 0 rfl) ?_
        refine md_gR (k := 28) cx hw hin12c (by decide) (by decide) (List.mem_cons_of_mem _ mm_171) dX12_readField_67 ?_
        refine lv_iload_n cx.1 cx.2.1 dX12_readField_70 rfl (lv_at hl 1 rfl) ?_
        refine lv_dup2_11 cx.1 cx.2.1 dX12_readField_71 rfl rfl ?_
        obtain ⟨v6, e_v6, h⟩ := md_ob h
        refine md_lI (k := 28) hj cx hw (by decide) rfl rfl rfl e_v6 dX12_readField_72 ?_
        refine lv_iconst (v := 1) cx.1 cx.2.1 dX12_readField_73 (by decide) ?_
        refine lv_iadd cx.1 cx.2.1 dX12_readField_74 ?_
        obtain ⟨σ7, e_σ7, h⟩ := md_ob h
        refine md_sI (k := 28) hj cx hw (by decide) rfl rfl rfl e_σ7 dX12_readField_75 (fun H locs hw => ?_)
        refine lv_aload_n cx.1 cx.2.1 dX12_readField_76 rfl (lv_at hl 0 rfl) ?_
        obtain ⟨p8, e_p8, h⟩ := md_ob h
        refine hp_callVv (As := []) (rest := []) cx hw (km_X12_next l D cA E _ ad hj hE n σ7  p8 e_p8) (cwV 0 cx.2.2.2.2.2.1 (md_giV mm_92 mm_93 mm_94 mm_5 mm_95) rfl rfl rfl hd_X12_next ⟨Nat.le_of_ble_eq_true rfl, Nat.le_of_ble_eq_true rfl⟩) md_at0 rfl rfl hl.1 rfl (Nat.le_of_ble_eq_true rfl) dX12_readField_77 ⟨Nat.le_refl _, Nat.le_refl _⟩ (fun u H locs hp hw => ?_)
        obtain rfl := hp
        exact hp_vret cx hw (md_retv h) dX12_readField_80
      · have h := md_in c36 h
        refine lv_aload_n cx.1 cx.2.1 dX12_readField_39 rfl (lv_at hl 0 rfl) ?_
        refine lv_iconst (v := 2) cx.1 cx.2.1 dX12_readField_40 (by decide) ?_
        obtain ⟨p9, e_p9, h⟩ := md_ob h
        refine hp_callVv (As := [.int 2]) (rest := []) cx hw (km_X12_fails l D cA E _ ad hj hE n p3.2 (2 : Int32) p9 e_p9) (cwV 1 cx.2.2.2.2.2.1 (md_giV mm_54 mm_55 mm_56 mm_5 mm_57) rfl rfl rfl hd_X12_fails ⟨Nat.le_of_ble_eq_true rfl, Nat.le_of_ble_eq_true rfl⟩) md_at0 rfl rfl hl.1 rfl (Nat.le_of_ble_eq_true rfl) dX12_readField_41 ⟨Nat.le_refl _, Nat.le_refl _⟩ (fun u H locs hp hw => ?_)
        obtain rfl := hp
        refine lv_goto (tgt := 80) cx.1 cx.2.1 dX12_readField_44 (by decide) ?_
        exact hp_vret cx hw (md_retv h) dX12_readField_80
    · have h := md_ip c15 h
      refine lv_aload_n cx.1 cx.2.1 dX12_readField_18 rfl (lv_at hl 0 rfl) ?_
      refine lv_iconst (v := 4) cx.1 cx.2.1 dX12_readField_19 (by decide) ?_
      obtain ⟨p10, e_p10, h⟩ := md_ob h
      refine hp_callVv (As := [.int 4]) (rest := []) cx hw (km_X12_fails l D cA E _ ad hj hE n p1.2 (4 : Int32) p10 e_p10) (cwV 1 cx.2.2.2.2.2.1 (md_giV mm_54 mm_55 mm_56 mm_5 mm_57) rfl rfl rfl hd_X12_fails ⟨Nat.le_of_ble_eq_true rfl, Nat.le_of_ble_eq_true rfl⟩) md_at0 rfl rfl hl.1 rfl (Nat.le_of_ble_eq_true rfl) dX12_readField_20 ⟨Nat.le_refl _, Nat.le_refl _⟩ (fun u H locs hp hw => ?_)
      obtain rfl := hp
      refine lv_goto (tgt := 80) cx.1 cx.2.1 dX12_readField_23 (by decide) ?_
      exact hp_vret cx hw (md_retv h) dX12_readField_80
  · have h := md_ip c4 h
    exact hp_vret cx hw (md_retv h) dX12_readField_7
set_option maxHeartbeats 4000000 in
set_option maxRecDepth 100000 in
theorem km_X12_beginsPrefix (l : Launch) (D : va_G) (cA : Nat → ClassId) (E : hp_N) (sz : Nat) (ad : Nat → Nat) (hj : md_inj ad) (hE : md_E E) (n : Nat) (σ0 : md_S) (p : (Int32 × md_S)) (h : f_X12_beginsPrefix n σ0 = some p) : Met l yX12_beginsPrefix (Cond.code yX12_beginsPrefix cX12_beginsPrefix 1 (some .boolean) :: v_MOD) ({ frames := 0, cells := 0, slots := 0, locals := 0 }) (hp_Pc D vwCl (hp_Tl cA) E sz (md_pic cA ad σ0) [.ref (ad 137)]) (hp_Qi D vwCl (hp_Tl cA) sz (md_pic cA ad σ0) (fun r u => r = p.1 ∧ u = md_pic cA ad p.2)) 0 0 (hp_A (md_pic cA ad σ0) sz) := by
  refine hp_ofW (cc := cX12_beginsPrefix) (maxL := 1) (ret := (some .boolean)) (by decide) rfl (Nat.le_of_ble_eq_true rfl) ?_
  intro pp ee ss mm bb mt cd ls cx hsz hw hl
  have hl : lv_has ls 1 [(0, .ref (ad 137))] := hl
  have J175 : ∀ (σ : md_S) (H : Heap) (locs : List Loc) (ls : Array Slot), f_X12_beginsPrefix_J175 n σ = some p → hp_w D vwCl (hp_Tl cA) E (hp_A (md_pic cA ad σ0) sz) ss H locs (md_pic cA ad σ) → lv_has ls 1 [] → W pp l ee ({ frames := 0, cells := 0, slots := 0, locals := 0 }) ss mm [.ref (ad 137)].toArray bb mt cd H locs 0 0 (MQ bb (hp_Qi D vwCl (hp_Tl cA) sz (md_pic cA ad σ0) (fun r u => r = p.1 ∧ u = md_pic cA ad p.2)) [.ref (ad 137)].toArray ss 0 0 (hp_A (md_pic cA ad σ0) sz)) (F0 mm 175 ls []) := by
    intro σ H locs ls h hw hl
    refine lv_iconst (v := 1) cx.1 cx.2.1 dX12_beginsPrefix_175 (by decide) ?_
    refine lv_goto (tgt := 180) cx.1 cx.2.1 dX12_beginsPrefix_176 (by decide) ?_
    exact hp_zret cx hw (md_ret h) (by decide) dX12_beginsPrefix_180
  have J44 : ∀ (σ : md_S) (H : Heap) (locs : List Loc) (ls : Array Slot), f_X12_beginsPrefix_J44 n σ = some p → hp_w D vwCl (hp_Tl cA) E (hp_A (md_pic cA ad σ0) sz) ss H locs (md_pic cA ad σ) → lv_has ls 1 [] → W pp l ee ({ frames := 0, cells := 0, slots := 0, locals := 0 }) ss mm [.ref (ad 137)].toArray bb mt cd H locs 0 0 (MQ bb (hp_Qi D vwCl (hp_Tl cA) sz (md_pic cA ad σ0) (fun r u => r = p.1 ∧ u = md_pic cA ad p.2)) [.ref (ad 137)].toArray ss 0 0 (hp_A (md_pic cA ad σ0) sz)) (F0 mm 44 ls []) := by
    intro σ H locs ls h hw hl
    refine lv_iconst (v := 1) cx.1 cx.2.1 dX12_beginsPrefix_44 (by decide) ?_
    refine lv_goto (tgt := 49) cx.1 cx.2.1 dX12_beginsPrefix_45 (by decide) ?_
    exact hp_zret cx hw (md_ret h) (by decide) dX12_beginsPrefix_49
  refine lv_aload_n cx.1 cx.2.1 dX12_beginsPrefix_0 rfl (lv_at hl 0 rfl) ?_
  refine md_gI (k := 8) cx hw hin12c rfl (by decide) (List.mem_cons_of_mem _ mm_15) dX12_beginsPrefix_1 ?_
  refine lv_iconst (v := 1) cx.1 cx.2.1 dX12_beginsPrefix_4 (by decide) ?_
  refine lv_icmp_eq (tgt := 16) cx.1 cx.2.1 dX12_beginsPrefix_5 (by decide) (fun c5 => ?_) (fun c5 => ?_)
  · have h := md_ip c5 h
    refine lv_iconst (v := 1) cx.1 cx.2.1 dX12_beginsPrefix_16 (by decide) ?_
    exact hp_zret cx hw (md_ret h) (by decide) dX12_beginsPrefix_17
  · have h := md_in c5 h
    refine lv_aload_n cx.1 cx.2.1 dX12_beginsPrefix_8 rfl (lv_at hl 0 rfl) ?_
    refine md_gI (k := 8) cx hw hin12c rfl (by decide) (List.mem_cons_of_mem _ mm_15) dX12_beginsPrefix_9 ?_
    refine lv_iconst (v := 3) cx.1 cx.2.1 dX12_beginsPrefix_12 (by decide) ?_
    refine lv_icmp_ne (tgt := 18) cx.1 cx.2.1 dX12_beginsPrefix_13 (by decide) (fun c13 => ?_) (fun c13 => ?_)
    · have h := md_in c13 h
      refine lv_aload_n cx.1 cx.2.1 dX12_beginsPrefix_18 rfl (lv_at hl 0 rfl) ?_
      refine md_gI (k := 8) cx hw hin12c rfl (by decide) (List.mem_cons_of_mem _ mm_15) dX12_beginsPrefix_19 ?_
      refine lv_iconst (v := 5) cx.1 cx.2.1 dX12_beginsPrefix_22 (by decide) ?_
      refine lv_icmp_ne (tgt := 50) cx.1 cx.2.1 dX12_beginsPrefix_23 (by decide) (fun c23 => ?_) (fun c23 => ?_)
      · have h := md_in c23 h
        refine lv_aload_n cx.1 cx.2.1 dX12_beginsPrefix_50 rfl (lv_at hl 0 rfl) ?_
        refine md_gI (k := 8) cx hw hin12c rfl (by decide) (List.mem_cons_of_mem _ mm_15) dX12_beginsPrefix_51 ?_
        refine lv_iconst (v := 2) cx.1 cx.2.1 dX12_beginsPrefix_54 (by decide) ?_
        refine lv_icmp_ne (tgt := 179) cx.1 cx.2.1 dX12_beginsPrefix_55 (by decide) (fun c55 => ?_) (fun c55 => ?_)
        · have h := md_in c55 h
          refine lv_iconst (v := 0) cx.1 cx.2.1 dX12_beginsPrefix_179 (by decide) ?_
          exact hp_zret cx hw (md_ret h) (by decide) dX12_beginsPrefix_180
        · have h := md_ip c55 h
          refine lv_aload_n cx.1 cx.2.1 dX12_beginsPrefix_58 rfl (lv_at hl 0 rfl) ?_
          refine md_gI (k := 11) cx hw hin12c rfl (by decide) (List.mem_cons_of_mem _ mm_53) dX12_beginsPrefix_59 ?_
          refine lv_bipush (v := 10) cx.1 cx.2.1 dX12_beginsPrefix_62 (by decide) ?_
          refine lv_icmp_eq (tgt := 175) cx.1 cx.2.1 dX12_beginsPrefix_64 (by decide) (fun c64 => ?_) (fun c64 => ?_)
          · have h := md_ip c64 h
            exact J175 σ0 _ _ _ h hw (lv_sub hl [] rfl)
          · have h := md_in c64 h
            refine lv_aload_n cx.1 cx.2.1 dX12_beginsPrefix_67 rfl (lv_at hl 0 rfl) ?_
            refine md_gI (k := 11) cx hw hin12c rfl (by decide) (List.mem_cons_of_mem _ mm_53) dX12_beginsPrefix_68 ?_
            refine lv_bipush (v := 11) cx.1 cx.2.1 dX12_beginsPrefix_71 (by decide) ?_
            refine lv_icmp_eq (tgt := 175) cx.1 cx.2.1 dX12_beginsPrefix_73 (by decide) (fun c73 => ?_) (fun c73 => ?_)
            · have h := md_ip c73 h
              exact J175 σ0 _ _ _ h hw (lv_sub hl [] rfl)
            · have h := md_in c73 h
              refine lv_aload_n cx.1 cx.2.1 dX12_beginsPrefix_76 rfl (lv_at hl 0 rfl) ?_
              refine md_gI (k := 11) cx hw hin12c rfl (by decide) (List.mem_cons_of_mem _ mm_53) dX12_beginsPrefix_77 ?_
              refine lv_bipush (v := 12) cx.1 cx.2.1 dX12_beginsPrefix_80 (by decide) ?_
              refine lv_icmp_eq (tgt := 175) cx.1 cx.2.1 dX12_beginsPrefix_82 (by decide) (fun c82 => ?_) (fun c82 => ?_)
              · have h := md_ip c82 h
                exact J175 σ0 _ _ _ h hw (lv_sub hl [] rfl)
              · have h := md_in c82 h
                refine lv_aload_n cx.1 cx.2.1 dX12_beginsPrefix_85 rfl (lv_at hl 0 rfl) ?_
                refine md_gI (k := 11) cx hw hin12c rfl (by decide) (List.mem_cons_of_mem _ mm_53) dX12_beginsPrefix_86 ?_
                refine lv_bipush (v := 13) cx.1 cx.2.1 dX12_beginsPrefix_89 (by decide) ?_
                refine lv_icmp_eq (tgt := 175) cx.1 cx.2.1 dX12_beginsPrefix_91 (by decide) (fun c91 => ?_) (fun c91 => ?_)
                · have h := md_ip c91 h
                  exact J175 σ0 _ _ _ h hw (lv_sub hl [] rfl)
                · have h := md_in c91 h
                  refine lv_aload_n cx.1 cx.2.1 dX12_beginsPrefix_94 rfl (lv_at hl 0 rfl) ?_
                  refine md_gI (k := 11) cx hw hin12c rfl (by decide) (List.mem_cons_of_mem _ mm_53) dX12_beginsPrefix_95 ?_
                  refine lv_bipush (v := 14) cx.1 cx.2.1 dX12_beginsPrefix_98 (by decide) ?_
                  refine lv_icmp_eq (tgt := 175) cx.1 cx.2.1 dX12_beginsPrefix_100 (by decide) (fun c100 => ?_) (fun c100 => ?_)
                  · have h := md_ip c100 h
                    exact J175 σ0 _ _ _ h hw (lv_sub hl [] rfl)
                  · have h := md_in c100 h
                    refine lv_aload_n cx.1 cx.2.1 dX12_beginsPrefix_103 rfl (lv_at hl 0 rfl) ?_
                    refine md_gI (k := 11) cx hw hin12c rfl (by decide) (List.mem_cons_of_mem _ mm_53) dX12_beginsPrefix_104 ?_
                    refine lv_bipush (v := 15) cx.1 cx.2.1 dX12_beginsPrefix_107 (by decide) ?_
                    refine lv_icmp_eq (tgt := 175) cx.1 cx.2.1 dX12_beginsPrefix_109 (by decide) (fun c109 => ?_) (fun c109 => ?_)
                    · have h := md_ip c109 h
                      exact J175 σ0 _ _ _ h hw (lv_sub hl [] rfl)
                    · have h := md_in c109 h
                      refine lv_aload_n cx.1 cx.2.1 dX12_beginsPrefix_112 rfl (lv_at hl 0 rfl) ?_
                      refine md_gI (k := 11) cx hw hin12c rfl (by decide) (List.mem_cons_of_mem _ mm_53) dX12_beginsPrefix_113 ?_
                      refine lv_bipush (v := 16) cx.1 cx.2.1 dX12_beginsPrefix_116 (by decide) ?_
                      refine lv_icmp_eq (tgt := 175) cx.1 cx.2.1 dX12_beginsPrefix_118 (by decide) (fun c118 => ?_) (fun c118 => ?_)
                      · have h := md_ip c118 h
                        exact J175 σ0 _ _ _ h hw (lv_sub hl [] rfl)
                      · have h := md_in c118 h
                        refine lv_aload_n cx.1 cx.2.1 dX12_beginsPrefix_121 rfl (lv_at hl 0 rfl) ?_
                        refine md_gI (k := 11) cx hw hin12c rfl (by decide) (List.mem_cons_of_mem _ mm_53) dX12_beginsPrefix_122 ?_
                        refine lv_bipush (v := 17) cx.1 cx.2.1 dX12_beginsPrefix_125 (by decide) ?_
                        refine lv_icmp_eq (tgt := 175) cx.1 cx.2.1 dX12_beginsPrefix_127 (by decide) (fun c127 => ?_) (fun c127 => ?_)
                        · have h := md_ip c127 h
                          exact J175 σ0 _ _ _ h hw (lv_sub hl [] rfl)
                        · have h := md_in c127 h
                          refine lv_aload_n cx.1 cx.2.1 dX12_beginsPrefix_130 rfl (lv_at hl 0 rfl) ?_
                          refine md_gI (k := 11) cx hw hin12c rfl (by decide) (List.mem_cons_of_mem _ mm_53) dX12_beginsPrefix_131 ?_
                          refine lv_bipush (v := 18) cx.1 cx.2.1 dX12_beginsPrefix_134 (by decide) ?_
                          refine lv_icmp_eq (tgt := 175) cx.1 cx.2.1 dX12_beginsPrefix_136 (by decide) (fun c136 => ?_) (fun c136 => ?_)
                          · have h := md_ip c136 h
                            exact J175 σ0 _ _ _ h hw (lv_sub hl [] rfl)
                          · have h := md_in c136 h
                            refine lv_aload_n cx.1 cx.2.1 dX12_beginsPrefix_139 rfl (lv_at hl 0 rfl) ?_
                            refine md_gI (k := 11) cx hw hin12c rfl (by decide) (List.mem_cons_of_mem _ mm_53) dX12_beginsPrefix_140 ?_
                            refine lv_bipush (v := 19) cx.1 cx.2.1 dX12_beginsPrefix_143 (by decide) ?_
                            refine lv_icmp_eq (tgt := 175) cx.1 cx.2.1 dX12_beginsPrefix_145 (by decide) (fun c145 => ?_) (fun c145 => ?_)
                            · have h := md_ip c145 h
                              exact J175 σ0 _ _ _ h hw (lv_sub hl [] rfl)
                            · have h := md_in c145 h
                              refine lv_aload_n cx.1 cx.2.1 dX12_beginsPrefix_148 rfl (lv_at hl 0 rfl) ?_
                              refine md_gI (k := 11) cx hw hin12c rfl (by decide) (List.mem_cons_of_mem _ mm_53) dX12_beginsPrefix_149 ?_
                              refine lv_bipush (v := 20) cx.1 cx.2.1 dX12_beginsPrefix_152 (by decide) ?_
                              refine lv_icmp_eq (tgt := 175) cx.1 cx.2.1 dX12_beginsPrefix_154 (by decide) (fun c154 => ?_) (fun c154 => ?_)
                              · have h := md_ip c154 h
                                exact J175 σ0 _ _ _ h hw (lv_sub hl [] rfl)
                              · have h := md_in c154 h
                                refine lv_aload_n cx.1 cx.2.1 dX12_beginsPrefix_157 rfl (lv_at hl 0 rfl) ?_
                                refine md_gI (k := 11) cx hw hin12c rfl (by decide) (List.mem_cons_of_mem _ mm_53) dX12_beginsPrefix_158 ?_
                                refine lv_bipush (v := 21) cx.1 cx.2.1 dX12_beginsPrefix_161 (by decide) ?_
                                refine lv_icmp_eq (tgt := 175) cx.1 cx.2.1 dX12_beginsPrefix_163 (by decide) (fun c163 => ?_) (fun c163 => ?_)
                                · have h := md_ip c163 h
                                  exact J175 σ0 _ _ _ h hw (lv_sub hl [] rfl)
                                · have h := md_in c163 h
                                  refine lv_aload_n cx.1 cx.2.1 dX12_beginsPrefix_166 rfl (lv_at hl 0 rfl) ?_
                                  refine md_gI (k := 11) cx hw hin12c rfl (by decide) (List.mem_cons_of_mem _ mm_53) dX12_beginsPrefix_167 ?_
                                  refine lv_bipush (v := 22) cx.1 cx.2.1 dX12_beginsPrefix_170 (by decide) ?_
                                  refine lv_icmp_ne (tgt := 179) cx.1 cx.2.1 dX12_beginsPrefix_172 (by decide) (fun c172 => ?_) (fun c172 => ?_)
                                  · have h := md_in c172 h
                                    refine lv_iconst (v := 0) cx.1 cx.2.1 dX12_beginsPrefix_179 (by decide) ?_
                                    exact hp_zret cx hw (md_ret h) (by decide) dX12_beginsPrefix_180
                                  · have h := md_ip c172 h
                                    exact J175 σ0 _ _ _ h hw (lv_sub hl [] rfl)
      · have h := md_ip c23 h
        refine lv_aload_n cx.1 cx.2.1 dX12_beginsPrefix_26 rfl (lv_at hl 0 rfl) ?_
        refine md_gI (k := 11) cx hw hin12c rfl (by decide) (List.mem_cons_of_mem _ mm_53) dX12_beginsPrefix_27 ?_
        refine lv_bipush (v := 123) cx.1 cx.2.1 dX12_beginsPrefix_30 (by decide) ?_
        refine lv_icmp_eq (tgt := 44) cx.1 cx.2.1 dX12_beginsPrefix_32 (by decide) (fun c32 => ?_) (fun c32 => ?_)
        · have h := md_ip c32 h
          exact J44 σ0 _ _ _ h hw (lv_sub hl [] rfl)
        · have h := md_in c32 h
          refine lv_aload_n cx.1 cx.2.1 dX12_beginsPrefix_35 rfl (lv_at hl 0 rfl) ?_
          refine md_gI (k := 11) cx hw hin12c rfl (by decide) (List.mem_cons_of_mem _ mm_53) dX12_beginsPrefix_36 ?_
          refine lv_bipush (v := 40) cx.1 cx.2.1 dX12_beginsPrefix_39 (by decide) ?_
          refine lv_icmp_ne (tgt := 48) cx.1 cx.2.1 dX12_beginsPrefix_41 (by decide) (fun c41 => ?_) (fun c41 => ?_)
          · have h := md_in c41 h
            refine lv_iconst (v := 0) cx.1 cx.2.1 dX12_beginsPrefix_48 (by decide) ?_
            exact hp_zret cx hw (md_ret h) (by decide) dX12_beginsPrefix_49
          · have h := md_ip c41 h
            exact J44 σ0 _ _ _ h hw (lv_sub hl [] rfl)
    · have h := md_ip c13 h
      refine lv_iconst (v := 1) cx.1 cx.2.1 dX12_beginsPrefix_16 (by decide) ?_
      exact hp_zret cx hw (md_ret h) (by decide) dX12_beginsPrefix_17
set_option maxHeartbeats 4000000 in
set_option maxRecDepth 100000 in
theorem km_X12_beginsE (l : Launch) (D : va_G) (cA : Nat → ClassId) (E : hp_N) (sz : Nat) (ad : Nat → Nat) (hj : md_inj ad) (hE : md_E E) (n : Nat) (σ0 : md_S) (p : (Int32 × md_S)) (h : f_X12_beginsE n σ0 = some p) : Met l yX12_beginsE (Cond.code yX12_beginsE cX12_beginsE 1 (some .boolean) :: v_MOD) ({ frames := 1, cells := 0, slots := 0, locals := 20 }) (hp_Pc D vwCl (hp_Tl cA) E sz (md_pic cA ad σ0) [.ref (ad 137)]) (hp_Qi D vwCl (hp_Tl cA) sz (md_pic cA ad σ0) (fun r u => r = p.1 ∧ u = md_pic cA ad p.2)) 0 0 (hp_A (md_pic cA ad σ0) sz) := by
  refine hp_ofW (cc := cX12_beginsE) (maxL := 1) (ret := (some .boolean)) (by decide) rfl (Nat.le_of_ble_eq_true rfl) ?_
  intro pp ee ss mm bb mt cd ls cx hsz hw hl
  have hl : lv_has ls 1 [(0, .ref (ad 137))] := hl
  have J40 : ∀ (σ : md_S) (H : Heap) (locs : List Loc) (ls : Array Slot), f_X12_beginsE_J40 n σ = some p → hp_w D vwCl (hp_Tl cA) E (hp_A (md_pic cA ad σ0) sz) ss H locs (md_pic cA ad σ) → lv_has ls 1 [] → W pp l ee ({ frames := 1, cells := 0, slots := 0, locals := 20 }) ss mm [.ref (ad 137)].toArray bb mt cd H locs 0 0 (MQ bb (hp_Qi D vwCl (hp_Tl cA) sz (md_pic cA ad σ0) (fun r u => r = p.1 ∧ u = md_pic cA ad p.2)) [.ref (ad 137)].toArray ss 0 0 (hp_A (md_pic cA ad σ0) sz)) (F0 mm 40 ls []) := by
    intro σ H locs ls h hw hl
    refine lv_iconst (v := 1) cx.1 cx.2.1 dX12_beginsE_40 (by decide) ?_
    refine lv_goto (tgt := 45) cx.1 cx.2.1 dX12_beginsE_41 (by decide) ?_
    exact hp_zret cx hw (md_ret h) (by decide) dX12_beginsE_45
  refine lv_aload_n cx.1 cx.2.1 dX12_beginsE_0 rfl (lv_at hl 0 rfl) ?_
  obtain ⟨p1, e_p1, h⟩ := md_ob h
  refine hp_callVi (As := []) (rest := []) cx hw (km_X12_beginsPrefix l D cA E _ ad hj hE n σ0  p1 e_p1) (cwV 0 cx.2.2.2.2.2.1 (md_giV mm_181 mm_182 mm_183 mm_5 mm_184) rfl rfl rfl hd_X12_beginsPrefix ⟨Nat.le_of_ble_eq_true rfl, Nat.le_of_ble_eq_true rfl⟩) md_at0 rfl rfl hl.1 rfl (Nat.le_of_ble_eq_true rfl) dX12_beginsE_1 ⟨Nat.le_refl _, Nat.le_refl _⟩ (fun r u H locs hp hw => ?_)
  obtain ⟨rfl, rfl⟩ := hp
  refine lv_if_ne (tgt := 40) cx.1 cx.2.1 dX12_beginsE_4 (by decide) (fun c4 => ?_) (fun c4 => ?_)
  · have h := md_in c4 h
    exact J40 p1.2 _ _ _ h hw (lv_sub hl [] rfl)
  · have h := md_ip c4 h
    refine lv_aload_n cx.1 cx.2.1 dX12_beginsE_7 rfl (lv_at hl 0 rfl) ?_
    refine md_gI (k := 8) cx hw hin12c rfl (by decide) (List.mem_cons_of_mem _ mm_15) dX12_beginsE_8 ?_
    refine lv_iconst (v := 2) cx.1 cx.2.1 dX12_beginsE_11 (by decide) ?_
    refine lv_icmp_ne (tgt := 44) cx.1 cx.2.1 dX12_beginsE_12 (by decide) (fun c12 => ?_) (fun c12 => ?_)
    · have h := md_in c12 h
      refine lv_iconst (v := 0) cx.1 cx.2.1 dX12_beginsE_44 (by decide) ?_
      exact hp_zret cx hw (md_ret h) (by decide) dX12_beginsE_45
    · have h := md_ip c12 h
      refine lv_aload_n cx.1 cx.2.1 dX12_beginsE_15 rfl (lv_at hl 0 rfl) ?_
      refine md_gI (k := 11) cx hw hin12c rfl (by decide) (List.mem_cons_of_mem _ mm_53) dX12_beginsE_16 ?_
      refine lv_iconst (v := 3) cx.1 cx.2.1 dX12_beginsE_19 (by decide) ?_
      refine lv_icmp_eq (tgt := 40) cx.1 cx.2.1 dX12_beginsE_20 (by decide) (fun c20 => ?_) (fun c20 => ?_)
      · have h := md_ip c20 h
        exact J40 p1.2 _ _ _ h hw (lv_sub hl [] rfl)
      · have h := md_in c20 h
        refine lv_aload_n cx.1 cx.2.1 dX12_beginsE_23 rfl (lv_at hl 0 rfl) ?_
        refine md_gI (k := 11) cx hw hin12c rfl (by decide) (List.mem_cons_of_mem _ mm_53) dX12_beginsE_24 ?_
        refine lv_iconst (v := 5) cx.1 cx.2.1 dX12_beginsE_27 (by decide) ?_
        refine lv_icmp_eq (tgt := 40) cx.1 cx.2.1 dX12_beginsE_28 (by decide) (fun c28 => ?_) (fun c28 => ?_)
        · have h := md_ip c28 h
          exact J40 p1.2 _ _ _ h hw (lv_sub hl [] rfl)
        · have h := md_in c28 h
          refine lv_aload_n cx.1 cx.2.1 dX12_beginsE_31 rfl (lv_at hl 0 rfl) ?_
          refine md_gI (k := 11) cx hw hin12c rfl (by decide) (List.mem_cons_of_mem _ mm_53) dX12_beginsE_32 ?_
          refine lv_bipush (v := 8) cx.1 cx.2.1 dX12_beginsE_35 (by decide) ?_
          refine lv_icmp_ne (tgt := 44) cx.1 cx.2.1 dX12_beginsE_37 (by decide) (fun c37 => ?_) (fun c37 => ?_)
          · have h := md_in c37 h
            refine lv_iconst (v := 0) cx.1 cx.2.1 dX12_beginsE_44 (by decide) ?_
            exact hp_zret cx hw (md_ret h) (by decide) dX12_beginsE_45
          · have h := md_ip c37 h
            exact J40 p1.2 _ _ _ h hw (lv_sub hl [] rfl)
set_option maxHeartbeats 4000000 in
set_option maxRecDepth 100000 in
theorem km_X12_deeper (l : Launch) (D : va_G) (cA : Nat → ClassId) (E : hp_N) (sz : Nat) (ad : Nat → Nat) (hj : md_inj ad) (hE : md_E E) (n : Nat) (σ0 : md_S) (a1 : Int32) (p : (Int32 × md_S)) (h : f_X12_deeper n σ0 a1 = some p) : Met l yX12_deeper (Cond.code yX12_deeper cX12_deeper 2 (some .boolean) :: v_MOD) ({ frames := 2, cells := 0, slots := 0, locals := 43 }) (hp_Pc D vwCl (hp_Tl cA) E sz (md_pic cA ad σ0) [.ref (ad 137), .int a1]) (hp_Qi D vwCl (hp_Tl cA) sz (md_pic cA ad σ0) (fun r u => r = p.1 ∧ u = md_pic cA ad p.2)) 0 0 (hp_A (md_pic cA ad σ0) sz) := by
  refine hp_ofW (cc := cX12_deeper) (maxL := 2) (ret := (some .boolean)) (by decide) rfl (Nat.le_of_ble_eq_true rfl) ?_
  intro pp ee ss mm bb mt cd ls cx hsz hw hl
  have hl : lv_has ls 2 [(0, .ref (ad 137)), (1, .int a1)] := hl
  refine lv_aload_n cx.1 cx.2.1 dX12_deeper_0 rfl (lv_at hl 0 rfl) ?_
  obtain ⟨p1, e_p1, h⟩ := md_ob h
  refine hp_callVi (As := []) (rest := []) cx hw (km_X12_isFine l D cA E _ ad hj hE n σ0  p1 e_p1) (cwV 0 cx.2.2.2.2.2.1 (md_giV mm_64 mm_65 mm_66 mm_5 mm_67) rfl rfl rfl hd_X12_isFine ⟨Nat.le_of_ble_eq_true rfl, Nat.le_of_ble_eq_true rfl⟩) md_at0 rfl rfl hl.1 rfl (Nat.le_of_ble_eq_true rfl) dX12_deeper_1 ⟨Nat.le_refl _, Nat.le_refl _⟩ (fun r u H locs hp hw => ?_)
  obtain ⟨rfl, rfl⟩ := hp
  refine lv_if_ne (tgt := 9) cx.1 cx.2.1 dX12_deeper_4 (by decide) (fun c4 => ?_) (fun c4 => ?_)
  · have h := md_in c4 h
    refine lv_iload_n cx.1 cx.2.1 dX12_deeper_9 rfl (lv_at hl 1 rfl) ?_
    refine lv_if_ne (tgt := 19) cx.1 cx.2.1 dX12_deeper_10 (by decide) (fun c10 => ?_) (fun c10 => ?_)
    · have h := md_in c10 h
      refine lv_aload_n cx.1 cx.2.1 dX12_deeper_19 rfl (lv_at hl 0 rfl) ?_
      refine md_gI (k := 63) cx hw hin12c rfl (by decide) (List.mem_cons_of_mem _ mm_185) dX12_deeper_20 ?_
      refine lv_bipush (v := 24) cx.1 cx.2.1 dX12_deeper_23 (by decide) ?_
      refine lv_icmp_ne (tgt := 35) cx.1 cx.2.1 dX12_deeper_25 (by decide) (fun c25 => ?_) (fun c25 => ?_)
      · have h := md_in c25 h
        refine lv_aload_n cx.1 cx.2.1 dX12_deeper_35 rfl (lv_at hl 0 rfl) ?_
        refine lv_dup cx.1 cx.2.1 dX12_deeper_36 rfl ?_
        refine md_gI (k := 63) cx hw hin12c rfl (by decide) (List.mem_cons_of_mem _ mm_185) dX12_deeper_37 ?_
        refine lv_iconst (v := 1) cx.1 cx.2.1 dX12_deeper_40 (by decide) ?_
        refine lv_iadd cx.1 cx.2.1 dX12_deeper_41 ?_
        obtain ⟨σ2, e_σ2, h⟩ := md_ob h
        refine md_pI (k := 63) cx hw hin12c rfl (by decide) rfl (List.mem_cons_of_mem _ mm_185) rfl e_σ2 dX12_deeper_42 (fun H locs hw => ?_)
        refine lv_iconst (v := 1) cx.1 cx.2.1 dX12_deeper_45 (by decide) ?_
        exact hp_zret cx hw (md_ret h) (by decide) dX12_deeper_46
      · have h := md_ip c25 h
        refine lv_aload_n cx.1 cx.2.1 dX12_deeper_28 rfl (lv_at hl 0 rfl) ?_
        refine lv_iconst (v := 4) cx.1 cx.2.1 dX12_deeper_29 (by decide) ?_
        obtain ⟨p3, e_p3, h⟩ := md_ob h
        refine hp_callVv (As := [.int 4]) (rest := []) cx hw (km_X12_fails l D cA E _ ad hj hE n p1.2 (4 : Int32) p3 e_p3) (cwV 1 cx.2.2.2.2.2.1 (md_giV mm_54 mm_55 mm_56 mm_5 mm_57) rfl rfl rfl hd_X12_fails ⟨Nat.le_of_ble_eq_true rfl, Nat.le_of_ble_eq_true rfl⟩) md_at0 rfl rfl hl.1 rfl (Nat.le_of_ble_eq_true rfl) dX12_deeper_30 ⟨Nat.le_refl _, Nat.le_refl _⟩ (fun u H locs hp hw => ?_)
        obtain rfl := hp
        refine lv_iconst (v := 0) cx.1 cx.2.1 dX12_deeper_33 (by decide) ?_
        exact hp_zret cx hw (md_ret h) (by decide) dX12_deeper_34
    · have h := md_ip c10 h
      refine lv_aload_n cx.1 cx.2.1 dX12_deeper_13 rfl (lv_at hl 0 rfl) ?_
      obtain ⟨p4, e_p4, h⟩ := md_ob h
      refine hp_callVv (As := []) (rest := []) cx hw (km_X12_misfit l D cA E _ ad hj hE n p1.2  p4 e_p4) (cwV 0 cx.2.2.2.2.2.1 (md_giV mm_88 mm_89 mm_90 mm_5 mm_91) rfl rfl rfl hd_X12_misfit ⟨Nat.le_of_ble_eq_true rfl, Nat.le_of_ble_eq_true rfl⟩) md_at0 rfl rfl hl.1 rfl (Nat.le_of_ble_eq_true rfl) dX12_deeper_14 ⟨Nat.le_refl _, Nat.le_refl _⟩ (fun u H locs hp hw => ?_)
      obtain rfl := hp
      refine lv_iconst (v := 0) cx.1 cx.2.1 dX12_deeper_17 (by decide) ?_
      exact hp_zret cx hw (md_ret h) (by decide) dX12_deeper_18
  · have h := md_ip c4 h
    refine lv_iconst (v := 0) cx.1 cx.2.1 dX12_deeper_7 (by decide) ?_
    exact hp_zret cx hw (md_ret h) (by decide) dX12_deeper_8
set_option maxHeartbeats 4000000 in
set_option maxRecDepth 100000 in
theorem km_X12_countsPart (l : Launch) (D : va_G) (cA : Nat → ClassId) (E : hp_N) (sz : Nat) (ad : Nat → Nat) (hj : md_inj ad) (hE : md_E E) (n : Nat) (σ0 : md_S) (p : (Int32 × md_S)) (h : f_X12_countsPart n σ0 = some p) : Met l yX12_countsPart (Cond.code yX12_countsPart cX12_countsPart 1 (some .boolean) :: v_MOD) ({ frames := 2, cells := 0, slots := 0, locals := 43 }) (hp_Pc D vwCl (hp_Tl cA) E sz (md_pic cA ad σ0) [.ref (ad 137)]) (hp_Qi D vwCl (hp_Tl cA) sz (md_pic cA ad σ0) (fun r u => r = p.1 ∧ u = md_pic cA ad p.2)) 0 0 (hp_A (md_pic cA ad σ0) sz) := by
  refine hp_ofW (cc := cX12_countsPart) (maxL := 1) (ret := (some .boolean)) (by decide) rfl (Nat.le_of_ble_eq_true rfl) ?_
  intro pp ee ss mm bb mt cd ls cx hsz hw hl
  have hl : lv_has ls 1 [(0, .ref (ad 137))] := hl
  have J22 : ∀ (σ : md_S) (H : Heap) (locs : List Loc) (ls : Array Slot), f_X12_countsPart_J22 n σ = some p → hp_w D vwCl (hp_Tl cA) E (hp_A (md_pic cA ad σ0) sz) ss H locs (md_pic cA ad σ) → lv_has ls 1 [(0, .ref (ad 137))] → W pp l ee ({ frames := 2, cells := 0, slots := 0, locals := 43 }) ss mm [.ref (ad 137)].toArray bb mt cd H locs 0 0 (MQ bb (hp_Qi D vwCl (hp_Tl cA) sz (md_pic cA ad σ0) (fun r u => r = p.1 ∧ u = md_pic cA ad p.2)) [.ref (ad 137)].toArray ss 0 0 (hp_A (md_pic cA ad σ0) sz)) (F0 mm 22 ls []) := by
    intro σ H locs ls h hw hl
    refine lv_aload_n cx.1 cx.2.1 dX12_countsPart_22 rfl (lv_at hl 0 rfl) ?_
    refine lv_dup cx.1 cx.2.1 dX12_countsPart_23 rfl ?_
    refine md_gI (k := 62) cx hw hin12c rfl (by decide) (List.mem_cons_of_mem _ mm_186) dX12_countsPart_24 ?_
    refine lv_iconst (v := 1) cx.1 cx.2.1 dX12_countsPart_27 (by decide) ?_
    refine lv_iadd cx.1 cx.2.1 dX12_countsPart_28 ?_
    obtain ⟨σ1, e_σ1, h⟩ := md_ob h
    refine md_pI (k := 62) cx hw hin12c rfl (by decide) rfl (List.mem_cons_of_mem _ mm_186) rfl e_σ1 dX12_countsPart_29 (fun H locs hw => ?_)
    refine lv_aload_n cx.1 cx.2.1 dX12_countsPart_32 rfl (lv_at hl 0 rfl) ?_
    obtain ⟨p2, e_p2, h⟩ := md_ob h
    refine hp_callVi (As := []) (rest := []) cx hw (km_X12_isFine l D cA E _ ad hj hE n σ1  p2 e_p2) (cwV 0 cx.2.2.2.2.2.1 (md_giV mm_64 mm_65 mm_66 mm_5 mm_67) rfl rfl rfl hd_X12_isFine ⟨Nat.le_of_ble_eq_true rfl, Nat.le_of_ble_eq_true rfl⟩) md_at0 rfl rfl hl.1 rfl (Nat.le_of_ble_eq_true rfl) dX12_countsPart_33 ⟨Nat.le_refl _, Nat.le_refl _⟩ (fun r u H locs hp hw => ?_)
    obtain ⟨rfl, rfl⟩ := hp
    obtain ⟨z3, e_z3, h⟩ := md_ob h
    rw [(md_zbs e_z3).1] at h
    exact hp_zret cx hw (md_ret h) (md_nbn (md_zbs e_z3).2) dX12_countsPart_36
  refine lv_aload_n cx.1 cx.2.1 dX12_countsPart_0 rfl (lv_at hl 0 rfl) ?_
  obtain ⟨p4, e_p4, h⟩ := md_ob h
  refine hp_callVi (As := []) (rest := []) cx hw (km_X12_isFine l D cA E _ ad hj hE n σ0  p4 e_p4) (cwV 0 cx.2.2.2.2.2.1 (md_giV mm_64 mm_65 mm_66 mm_5 mm_67) rfl rfl rfl hd_X12_isFine ⟨Nat.le_of_ble_eq_true rfl, Nat.le_of_ble_eq_true rfl⟩) md_at0 rfl rfl hl.1 rfl (Nat.le_of_ble_eq_true rfl) dX12_countsPart_1 ⟨Nat.le_refl _, Nat.le_refl _⟩ (fun r u H locs hp hw => ?_)
  obtain ⟨rfl, rfl⟩ := hp
  refine lv_if_eq (tgt := 22) cx.1 cx.2.1 dX12_countsPart_4 (by decide) (fun c4 => ?_) (fun c4 => ?_)
  · have h := md_ip c4 h
    exact J22 p4.2 _ _ _ h hw (lv_sub hl [0] rfl)
  · have h := md_in c4 h
    refine lv_aload_n cx.1 cx.2.1 dX12_countsPart_7 rfl (lv_at hl 0 rfl) ?_
    refine md_gI (k := 62) cx hw hin12c rfl (by decide) (List.mem_cons_of_mem _ mm_186) dX12_countsPart_8 ?_
    refine lv_sipush (v := 400) cx.1 cx.2.1 dX12_countsPart_11 (by decide) ?_
    refine lv_icmp_ne (tgt := 22) cx.1 cx.2.1 dX12_countsPart_14 (by decide) (fun c14 => ?_) (fun c14 => ?_)
    · have h := md_in c14 h
      exact J22 p4.2 _ _ _ h hw (lv_sub hl [0] rfl)
    · have h := md_ip c14 h
      refine lv_aload_n cx.1 cx.2.1 dX12_countsPart_17 rfl (lv_at hl 0 rfl) ?_
      refine lv_iconst (v := 4) cx.1 cx.2.1 dX12_countsPart_18 (by decide) ?_
      obtain ⟨p5, e_p5, h⟩ := md_ob h
      refine hp_callVv (As := [.int 4]) (rest := []) cx hw (km_X12_fails l D cA E _ ad hj hE n p4.2 (4 : Int32) p5 e_p5) (cwV 1 cx.2.2.2.2.2.1 (md_giV mm_54 mm_55 mm_56 mm_5 mm_57) rfl rfl rfl hd_X12_fails ⟨Nat.le_of_ble_eq_true rfl, Nat.le_of_ble_eq_true rfl⟩) md_at0 rfl rfl hl.1 rfl (Nat.le_of_ble_eq_true rfl) dX12_countsPart_19 ⟨Nat.le_refl _, Nat.le_refl _⟩ (fun u H locs hp hw => ?_)
      obtain rfl := hp
      exact J22 p5.2 _ _ _ h hw (lv_sub hl [0] rfl)
set_option maxHeartbeats 4000000 in
set_option maxRecDepth 100000 in
theorem km_X12_ifE (l : Launch) (D : va_G) (cA : Nat → ClassId) (E : hp_N) (sz : Nat) (ad : Nat → Nat) (hj : md_inj ad) (hE : md_E E) (n d : Nat) (rec : md_R) (ih0 : ∀ (sz : Nat) (σ : md_S) (p : Int32 × md_S), rec 0 0 0 0 σ = some p → Met l yX12_e (Cond.code yX12_e cX12_e 2 (some .int) :: v_MOD) ({ frames := d + 10, cells := 0, slots := 0, locals := 25 * d + 244 }) (hp_Pc D vwCl (hp_Tl cA) E sz (md_pic cA ad σ) [.ref (ad 137)]) (hp_Qi D vwCl (hp_Tl cA) sz (md_pic cA ad σ) (fun r u => r = p.1 ∧ u = md_pic cA ad p.2)) 0 0 (hp_A (md_pic cA ad σ) sz)) (σ0 : md_S) (p : (Int32 × md_S)) (h : f_X12_ifE n rec σ0 = some p) : Met l yX12_ifE (Cond.code yX12_ifE cX12_ifE 2 (some .int) :: v_MOD) ({ frames := (d + 1) + 10, cells := 0, slots := 0, locals := 25 * ((d + 1)) + 244 }) (hp_Pc D vwCl (hp_Tl cA) E sz (md_pic cA ad σ0) [.ref (ad 137)]) (hp_Qi D vwCl (hp_Tl cA) sz (md_pic cA ad σ0) (fun r u => r = p.1 ∧ u = md_pic cA ad p.2)) 0 0 (hp_A (md_pic cA ad σ0) sz) := by
  refine hp_ofW (cc := cX12_ifE) (maxL := 2) (ret := (some .int)) (by decide) rfl (Nat.le_of_ble_eq_true rfl) ?_
  intro pp ee ss mm bb mt cd ls cx hsz hw hl
  have hl : lv_has ls 2 [(0, .ref (ad 137))] := hl
  refine lv_aload_n cx.1 cx.2.1 dX12_ifE_0 rfl (lv_at hl 0 rfl) ?_
  obtain ⟨p1, e_p1, h⟩ := md_ob h
  refine hp_callVi (As := []) (rest := []) cx hw (km_X12_countsPart l D cA E _ ad hj hE n σ0  p1 e_p1) (cwV 0 cx.2.2.2.2.2.1 (md_giV mm_187 mm_188 mm_189 mm_5 mm_190) rfl rfl rfl hd_X12_countsPart ⟨by dsimp only; omega, by dsimp only; omega⟩) md_at0 rfl rfl hl.1 rfl (Nat.le_of_ble_eq_true rfl) dX12_ifE_1 ⟨Nat.le_refl _, Nat.le_refl _⟩ (fun r u H locs hp hw => ?_)
  obtain ⟨rfl, rfl⟩ := hp
  refine lv_if_ne (tgt := 9) cx.1 cx.2.1 dX12_ifE_4 (by decide) (fun c4 => ?_) (fun c4 => ?_)
  · have h := md_in c4 h
    refine lv_aload_n cx.1 cx.2.1 dX12_ifE_9 rfl (lv_at hl 0 rfl) ?_
    refine lv_bipush (v := 41) cx.1 cx.2.1 dX12_ifE_10 (by decide) ?_
    refine lv_iconst (v := 0) cx.1 cx.2.1 dX12_ifE_12 (by decide) ?_
    refine lv_iconst (v := 0) cx.1 cx.2.1 dX12_ifE_13 (by decide) ?_
    obtain ⟨p2, e_p2, h⟩ := md_ob h
    refine hp_callVi (As := [.int 41, .int 0, .int 0]) (rest := []) cx hw (km_X12_node l D cA E _ ad hj hE n p1.2 (41 : Int32) (0 : Int32) (0 : Int32) p2 e_p2) (cwV 3 cx.2.2.2.2.2.1 (md_giV mm_191 mm_192 mm_193 mm_5 mm_194) rfl rfl rfl hd_X12_node ⟨by dsimp only; omega, by dsimp only; omega⟩) md_at0 rfl rfl hl.1 rfl (Nat.le_of_ble_eq_true rfl) dX12_ifE_14 ⟨Nat.le_refl _, Nat.le_refl _⟩ (fun r u H locs hp hw => ?_)
    obtain ⟨rfl, rfl⟩ := hp
    refine lv_istore_n (lv' := [(1, .int p2.1), (0, .ref (ad 137))]) cx.1 cx.2.1 dX12_ifE_17 rfl hl (by decide) rfl (fun ls hl => ?_)
    refine lv_aload_n cx.1 cx.2.1 dX12_ifE_18 rfl (lv_at hl 1 rfl) ?_
    obtain ⟨p3, e_p3, h⟩ := md_ob h
    refine hp_callVv (As := []) (rest := []) cx hw (km_X12_next l D cA E _ ad hj hE n p2.2  p3 e_p3) (cwV 0 cx.2.2.2.2.2.1 (md_giV mm_92 mm_93 mm_94 mm_5 mm_95) rfl rfl rfl hd_X12_next ⟨by dsimp only; omega, by dsimp only; omega⟩) md_at0 rfl rfl hl.1 rfl (Nat.le_of_ble_eq_true rfl) dX12_ifE_19 ⟨Nat.le_refl _, Nat.le_refl _⟩ (fun u H locs hp hw => ?_)
    obtain rfl := hp
    refine lv_aload_n cx.1 cx.2.1 dX12_ifE_22 rfl (lv_at hl 1 rfl) ?_
    refine lv_iload_n cx.1 cx.2.1 dX12_ifE_23 rfl (lv_at hl 0 rfl) ?_
    refine lv_aload_n cx.1 cx.2.1 dX12_ifE_24 rfl (lv_at hl 1 rfl) ?_
    obtain ⟨p4, e_p4, h⟩ := md_ob h
    refine hp_callVi (As := []) (rest := [.int p2.1, .ref (ad 137)]) cx hw (ih0 _ p3.2  p4 e_p4) (cwV 0 cx.2.2.2.2.2.1 (md_giV mm_195 mm_196 mm_197 mm_5 mm_198) rfl rfl rfl hd_X12_e ⟨by dsimp only; omega, by dsimp only; omega⟩) md_at0 rfl rfl hl.1 rfl (Nat.le_of_ble_eq_true rfl) dX12_ifE_25 ⟨Nat.le_refl _, Nat.le_refl _⟩ (fun r u H locs hp hw => ?_)
    obtain ⟨rfl, rfl⟩ := hp
    obtain ⟨p5, e_p5, h⟩ := md_ob h
    refine hp_callVv (As := [.int p2.1, .int p4.1]) (rest := []) cx hw (km_X12_gets l D cA E _ ad hj hE n p4.2 (p2.1) (p4.1) p5 e_p5) (cwV 2 cx.2.2.2.2.2.1 (md_giV mm_199 mm_200 mm_201 mm_5 mm_202) rfl rfl rfl hd_X12_gets ⟨by dsimp only; omega, by dsimp only; omega⟩) md_at0 rfl rfl hl.1 rfl (Nat.le_of_ble_eq_true rfl) dX12_ifE_28 ⟨Nat.le_refl _, Nat.le_refl _⟩ (fun u H locs hp hw => ?_)
    obtain rfl := hp
    refine lv_aload_n cx.1 cx.2.1 dX12_ifE_31 rfl (lv_at hl 1 rfl) ?_
    refine lv_bipush (v := 6) cx.1 cx.2.1 dX12_ifE_32 (by decide) ?_
    obtain ⟨p6, e_p6, h⟩ := md_ob h
    refine hp_callVv (As := [.int 6]) (rest := []) cx hw (km_X12_key l D cA E _ ad hj hE n p5.2 (6 : Int32) p6 e_p6) (cwV 1 cx.2.2.2.2.2.1 (md_giV mm_203 mm_204 mm_205 mm_5 mm_206) rfl rfl rfl hd_X12_key ⟨by dsimp only; omega, by dsimp only; omega⟩) md_at0 rfl rfl hl.1 rfl (Nat.le_of_ble_eq_true rfl) dX12_ifE_34 ⟨Nat.le_refl _, Nat.le_refl _⟩ (fun u H locs hp hw => ?_)
    obtain rfl := hp
    refine lv_aload_n cx.1 cx.2.1 dX12_ifE_37 rfl (lv_at hl 1 rfl) ?_
    refine lv_iload_n cx.1 cx.2.1 dX12_ifE_38 rfl (lv_at hl 0 rfl) ?_
    refine lv_aload_n cx.1 cx.2.1 dX12_ifE_39 rfl (lv_at hl 1 rfl) ?_
    obtain ⟨p7, e_p7, h⟩ := md_ob h
    refine hp_callVi (As := []) (rest := [.int p2.1, .ref (ad 137)]) cx hw (ih0 _ p6.2  p7 e_p7) (cwV 0 cx.2.2.2.2.2.1 (md_giV mm_195 mm_196 mm_197 mm_5 mm_198) rfl rfl rfl hd_X12_e ⟨by dsimp only; omega, by dsimp only; omega⟩) md_at0 rfl rfl hl.1 rfl (Nat.le_of_ble_eq_true rfl) dX12_ifE_40 ⟨Nat.le_refl _, Nat.le_refl _⟩ (fun r u H locs hp hw => ?_)
    obtain ⟨rfl, rfl⟩ := hp
    obtain ⟨p8, e_p8, h⟩ := md_ob h
    refine hp_callVv (As := [.int p2.1, .int p7.1]) (rest := []) cx hw (km_X12_gets l D cA E _ ad hj hE n p7.2 (p2.1) (p7.1) p8 e_p8) (cwV 2 cx.2.2.2.2.2.1 (md_giV mm_199 mm_200 mm_201 mm_5 mm_202) rfl rfl rfl hd_X12_gets ⟨by dsimp only; omega, by dsimp only; omega⟩) md_at0 rfl rfl hl.1 rfl (Nat.le_of_ble_eq_true rfl) dX12_ifE_43 ⟨Nat.le_refl _, Nat.le_refl _⟩ (fun u H locs hp hw => ?_)
    obtain rfl := hp
    refine lv_aload_n cx.1 cx.2.1 dX12_ifE_46 rfl (lv_at hl 1 rfl) ?_
    refine lv_bipush (v := 7) cx.1 cx.2.1 dX12_ifE_47 (by decide) ?_
    obtain ⟨p9, e_p9, h⟩ := md_ob h
    refine hp_callVv (As := [.int 7]) (rest := []) cx hw (km_X12_key l D cA E _ ad hj hE n p8.2 (7 : Int32) p9 e_p9) (cwV 1 cx.2.2.2.2.2.1 (md_giV mm_203 mm_204 mm_205 mm_5 mm_206) rfl rfl rfl hd_X12_key ⟨by dsimp only; omega, by dsimp only; omega⟩) md_at0 rfl rfl hl.1 rfl (Nat.le_of_ble_eq_true rfl) dX12_ifE_49 ⟨Nat.le_refl _, Nat.le_refl _⟩ (fun u H locs hp hw => ?_)
    obtain rfl := hp
    refine lv_aload_n cx.1 cx.2.1 dX12_ifE_52 rfl (lv_at hl 1 rfl) ?_
    refine lv_iload_n cx.1 cx.2.1 dX12_ifE_53 rfl (lv_at hl 0 rfl) ?_
    refine lv_aload_n cx.1 cx.2.1 dX12_ifE_54 rfl (lv_at hl 1 rfl) ?_
    obtain ⟨p10, e_p10, h⟩ := md_ob h
    refine hp_callVi (As := []) (rest := [.int p2.1, .ref (ad 137)]) cx hw (ih0 _ p9.2  p10 e_p10) (cwV 0 cx.2.2.2.2.2.1 (md_giV mm_195 mm_196 mm_197 mm_5 mm_198) rfl rfl rfl hd_X12_e ⟨by dsimp only; omega, by dsimp only; omega⟩) md_at0 rfl rfl hl.1 rfl (Nat.le_of_ble_eq_true rfl) dX12_ifE_55 ⟨Nat.le_refl _, Nat.le_refl _⟩ (fun r u H locs hp hw => ?_)
    obtain ⟨rfl, rfl⟩ := hp
    obtain ⟨p11, e_p11, h⟩ := md_ob h
    refine hp_callVv (As := [.int p2.1, .int p10.1]) (rest := []) cx hw (km_X12_gets l D cA E _ ad hj hE n p10.2 (p2.1) (p10.1) p11 e_p11) (cwV 2 cx.2.2.2.2.2.1 (md_giV mm_199 mm_200 mm_201 mm_5 mm_202) rfl rfl rfl hd_X12_gets ⟨by dsimp only; omega, by dsimp only; omega⟩) md_at0 rfl rfl hl.1 rfl (Nat.le_of_ble_eq_true rfl) dX12_ifE_58 ⟨Nat.le_refl _, Nat.le_refl _⟩ (fun u H locs hp hw => ?_)
    obtain rfl := hp
    refine lv_iload_n cx.1 cx.2.1 dX12_ifE_61 rfl (lv_at hl 0 rfl) ?_
    exact hp_iret cx hw (md_ret h) dX12_ifE_62
  · have h := md_ip c4 h
    refine lv_iconst (v := 0) cx.1 cx.2.1 dX12_ifE_7 (by decide) ?_
    exact hp_iret cx hw (md_ret h) dX12_ifE_8
set_option maxHeartbeats 4000000 in
set_option maxRecDepth 100000 in
theorem km_X12_around (l : Launch) (D : va_G) (cA : Nat → ClassId) (E : hp_N) (sz : Nat) (ad : Nat → Nat) (hj : md_inj ad) (hE : md_E E) (n d : Nat) (rec : md_R) (ih0 : ∀ (sz : Nat) (σ : md_S) (p : Int32 × md_S), rec 0 0 0 0 σ = some p → Met l yX12_e (Cond.code yX12_e cX12_e 2 (some .int) :: v_MOD) ({ frames := d + 10, cells := 0, slots := 0, locals := 25 * d + 244 }) (hp_Pc D vwCl (hp_Tl cA) E sz (md_pic cA ad σ) [.ref (ad 137)]) (hp_Qi D vwCl (hp_Tl cA) sz (md_pic cA ad σ) (fun r u => r = p.1 ∧ u = md_pic cA ad p.2)) 0 0 (hp_A (md_pic cA ad σ) sz)) (σ0 : md_S) (a1 : Int32) (a2 : Int32) (p : (Int32 × md_S)) (h : f_X12_around n rec σ0 a1 a2 = some p) : Met l yX12_around (Cond.code yX12_around cX12_around 3 none :: v_MOD) ({ frames := (d + 1) + 10, cells := 0, slots := 0, locals := 25 * ((d + 1)) + 244 }) (hp_Pc D vwCl (hp_Tl cA) E sz (md_pic cA ad σ0) [.ref (ad 137), .int a1, .int a2]) (hp_Qv D vwCl (hp_Tl cA) sz (md_pic cA ad σ0) (fun u => u = md_pic cA ad p.2)) 0 0 (hp_A (md_pic cA ad σ0) sz) := by
  refine hp_ofW (cc := cX12_around) (maxL := 3) (ret := none) (by decide) rfl (Nat.le_of_ble_eq_true rfl) ?_
  intro pp ee ss mm bb mt cd ls cx hsz hw hl
  have hl : lv_has ls 3 [(0, .ref (ad 137)), (1, .int a1), (2, .int a2)] := hl
  refine lv_aload_n cx.1 cx.2.1 dX12_around_0 rfl (lv_at hl 0 rfl) ?_
  obtain ⟨p1, e_p1, h⟩ := md_ob h
  refine hp_callVi (As := []) (rest := []) cx hw (km_X12_isFine l D cA E _ ad hj hE n σ0  p1 e_p1) (cwV 0 cx.2.2.2.2.2.1 (md_giV mm_64 mm_65 mm_66 mm_5 mm_67) rfl rfl rfl hd_X12_isFine ⟨by dsimp only; omega, by dsimp only; omega⟩) md_at0 rfl rfl hl.1 rfl (Nat.le_of_ble_eq_true rfl) dX12_around_1 ⟨Nat.le_refl _, Nat.le_refl _⟩ (fun r u H locs hp hw => ?_)
  obtain ⟨rfl, rfl⟩ := hp
  refine lv_if_ne (tgt := 8) cx.1 cx.2.1 dX12_around_4 (by decide) (fun c4 => ?_) (fun c4 => ?_)
  · have h := md_in c4 h
    refine lv_aload_n cx.1 cx.2.1 dX12_around_8 rfl (lv_at hl 0 rfl) ?_
    refine md_gR (k := 57) cx hw hin12c (by decide) (by decide) (List.mem_cons_of_mem _ mm_207) dX12_around_9 ?_
    refine lv_aload_n cx.1 cx.2.1 dX12_around_12 rfl (lv_at hl 0 rfl) ?_
    refine md_gI (k := 56) cx hw hin12c rfl (by decide) (List.mem_cons_of_mem _ mm_208) dX12_around_13 ?_
    refine lv_iload_n cx.1 cx.2.1 dX12_around_16 rfl (lv_at hl 1 rfl) ?_
    obtain ⟨σ2, e_σ2, h⟩ := md_ob h
    refine md_sI (k := 57) hj cx hw (by decide) rfl rfl rfl e_σ2 dX12_around_17 (fun H locs hw => ?_)
    refine lv_aload_n cx.1 cx.2.1 dX12_around_18 rfl (lv_at hl 0 rfl) ?_
    refine lv_dup cx.1 cx.2.1 dX12_around_19 rfl ?_
    refine md_gI (k := 56) cx hw hin12c rfl (by decide) (List.mem_cons_of_mem _ mm_208) dX12_around_20 ?_
    refine lv_iconst (v := 1) cx.1 cx.2.1 dX12_around_23 (by decide) ?_
    refine lv_iadd cx.1 cx.2.1 dX12_around_24 ?_
    obtain ⟨σ3, e_σ3, h⟩ := md_ob h
    refine md_pI (k := 56) cx hw hin12c rfl (by decide) rfl (List.mem_cons_of_mem _ mm_208) rfl e_σ3 dX12_around_25 (fun H locs hw => ?_)
    refine lv_aload_n cx.1 cx.2.1 dX12_around_28 rfl (lv_at hl 0 rfl) ?_
    refine lv_iload_n cx.1 cx.2.1 dX12_around_29 rfl (lv_at hl 2 rfl) ?_
    refine lv_aload_n cx.1 cx.2.1 dX12_around_30 rfl (lv_at hl 0 rfl) ?_
    obtain ⟨p4, e_p4, h⟩ := md_ob h
    refine hp_callVi (As := []) (rest := [.int a2, .ref (ad 137)]) cx hw (ih0 _ σ3  p4 e_p4) (cwV 0 cx.2.2.2.2.2.1 (md_giV mm_195 mm_196 mm_197 mm_5 mm_198) rfl rfl rfl hd_X12_e ⟨by dsimp only; omega, by dsimp only; omega⟩) md_at0 rfl rfl hl.1 rfl (Nat.le_of_ble_eq_true rfl) dX12_around_31 ⟨Nat.le_refl _, Nat.le_refl _⟩ (fun r u H locs hp hw => ?_)
    obtain ⟨rfl, rfl⟩ := hp
    obtain ⟨p5, e_p5, h⟩ := md_ob h
    refine hp_callVv (As := [.int a2, .int p4.1]) (rest := []) cx hw (km_X12_gets l D cA E _ ad hj hE n p4.2 a2 (p4.1) p5 e_p5) (cwV 2 cx.2.2.2.2.2.1 (md_giV mm_199 mm_200 mm_201 mm_5 mm_202) rfl rfl rfl hd_X12_gets ⟨by dsimp only; omega, by dsimp only; omega⟩) md_at0 rfl rfl hl.1 rfl (Nat.le_of_ble_eq_true rfl) dX12_around_34 ⟨Nat.le_refl _, Nat.le_refl _⟩ (fun u H locs hp hw => ?_)
    obtain rfl := hp
    refine lv_aload_n cx.1 cx.2.1 dX12_around_37 rfl (lv_at hl 0 rfl) ?_
    refine lv_dup cx.1 cx.2.1 dX12_around_38 rfl ?_
    refine md_gI (k := 56) cx hw hin12c rfl (by decide) (List.mem_cons_of_mem _ mm_208) dX12_around_39 ?_
    refine lv_iconst (v := 1) cx.1 cx.2.1 dX12_around_42 (by decide) ?_
    refine lv_isub cx.1 cx.2.1 dX12_around_43 ?_
    obtain ⟨σ6, e_σ6, h⟩ := md_ob h
    refine md_pI (k := 56) cx hw hin12c rfl (by decide) rfl (List.mem_cons_of_mem _ mm_208) rfl e_σ6 dX12_around_44 (fun H locs hw => ?_)
    exact hp_vret cx hw (md_retv h) dX12_around_47
  · have h := md_ip c4 h
    exact hp_vret cx hw (md_retv h) dX12_around_7
set_option maxHeartbeats 4000000 in
set_option maxRecDepth 100000 in
theorem km_X12_newVariable (l : Launch) (D : va_G) (cA : Nat → ClassId) (E : hp_N) (sz : Nat) (ad : Nat → Nat) (hj : md_inj ad) (hE : md_E E) (n : Nat) (σ0 : md_S) (a1 : Int32) (a2 : Int64) (a4 : Int32) (a5 : Int32) (p : (Int32 × md_S)) (h : f_X12_newVariable n σ0 a1 a2 a4 a5 = some p) : Met l yX12_newVariable (Cond.code yX12_newVariable cX12_newVariable 7 (some .int) :: v_MOD) ({ frames := 0, cells := 0, slots := 0, locals := 0 }) (hp_Pc D vwCl (hp_Tl cA) E sz (md_pic cA ad σ0) [.ref (ad 137), .int a1, .long a2, .int a4, .int a5]) (hp_Qi D vwCl (hp_Tl cA) sz (md_pic cA ad σ0) (fun r u => r = p.1 ∧ u = md_pic cA ad p.2)) 0 0 (hp_A (md_pic cA ad σ0) sz) := by
  refine hp_ofW (cc := cX12_newVariable) (maxL := 7) (ret := (some .int)) (by decide) rfl (Nat.le_of_ble_eq_true rfl) ?_
  intro pp ee ss mm bb mt cd ls cx hsz hw hl
  have hl : lv_has ls 7 [(0, .ref (ad 137)), (1, .int a1), (2, .long a2), (4, .int a4), (5, .int a5)] := hl
  refine lv_aload_n cx.1 cx.2.1 dX12_newVariable_0 rfl (lv_at hl 0 rfl) ?_
  refine md_gI (k := 50) cx hw hin12c rfl (by decide) (List.mem_cons_of_mem _ mm_209) dX12_newVariable_1 ?_
  refine lv_istore (lv' := [(6, .int (mI σ0 50)), (0, .ref (ad 137)), (1, .int a1), (2, .long a2), (4, .int a4), (5, .int a5)]) cx.1 cx.2.1 dX12_newVariable_4 hl (by decide) rfl (fun ls hl => ?_)
  refine lv_aload_n cx.1 cx.2.1 dX12_newVariable_6 rfl (lv_at hl 1 rfl) ?_
  refine lv_dup cx.1 cx.2.1 dX12_newVariable_7 rfl ?_
  refine md_gI (k := 50) cx hw hin12c rfl (by decide) (List.mem_cons_of_mem _ mm_209) dX12_newVariable_8 ?_
  refine lv_iconst (v := 1) cx.1 cx.2.1 dX12_newVariable_11 (by decide) ?_
  refine lv_iadd cx.1 cx.2.1 dX12_newVariable_12 ?_
  obtain ⟨σ1, e_σ1, h⟩ := md_ob h
  refine md_pI (k := 50) cx hw hin12c rfl (by decide) rfl (List.mem_cons_of_mem _ mm_209) rfl e_σ1 dX12_newVariable_13 (fun H locs hw => ?_)
  refine lv_aload_n cx.1 cx.2.1 dX12_newVariable_16 rfl (lv_at hl 1 rfl) ?_
  refine md_gR (k := 51) cx hw hin12c (by decide) (by decide) (List.mem_cons_of_mem _ mm_210) dX12_newVariable_17 ?_
  refine lv_iload cx.1 cx.2.1 dX12_newVariable_20 (lv_at hl 0 rfl) ?_
  refine lv_iload_n cx.1 cx.2.1 dX12_newVariable_22 rfl (lv_at hl 2 rfl) ?_
  obtain ⟨σ2, e_σ2, h⟩ := md_ob h
  refine md_sI (k := 51) hj cx hw (by decide) rfl rfl rfl e_σ2 dX12_newVariable_23 (fun H locs hw => ?_)
  refine lv_aload_n cx.1 cx.2.1 dX12_newVariable_24 rfl (lv_at hl 1 rfl) ?_
  refine md_gR (k := 52) cx hw hin12c (by decide) (by decide) (List.mem_cons_of_mem _ mm_211) dX12_newVariable_25 ?_
  refine lv_iload cx.1 cx.2.1 dX12_newVariable_28 (lv_at hl 0 rfl) ?_
  refine lv_lload_n cx.1 cx.2.1 dX12_newVariable_30 rfl (lv_at hl 3 rfl) ?_
  obtain ⟨σ3, e_σ3, h⟩ := md_ob h
  refine md_sJ (k := 52) hj cx hw (by decide) rfl rfl rfl e_σ3 dX12_newVariable_31 (fun H locs hw => ?_)
  refine lv_aload_n cx.1 cx.2.1 dX12_newVariable_32 rfl (lv_at hl 1 rfl) ?_
  refine md_gR (k := 53) cx hw hin12c (by decide) (by decide) (List.mem_cons_of_mem _ mm_212) dX12_newVariable_33 ?_
  refine lv_iload cx.1 cx.2.1 dX12_newVariable_36 (lv_at hl 0 rfl) ?_
  refine lv_iload cx.1 cx.2.1 dX12_newVariable_38 (lv_at hl 4 rfl) ?_
  obtain ⟨σ4, e_σ4, h⟩ := md_ob h
  refine md_sI (k := 53) hj cx hw (by decide) rfl rfl rfl e_σ4 dX12_newVariable_40 (fun H locs hw => ?_)
  refine lv_aload_n cx.1 cx.2.1 dX12_newVariable_41 rfl (lv_at hl 1 rfl) ?_
  refine md_gR (k := 54) cx hw hin12c (by decide) (by decide) (List.mem_cons_of_mem _ mm_213) dX12_newVariable_42 ?_
  refine lv_iload cx.1 cx.2.1 dX12_newVariable_45 (lv_at hl 0 rfl) ?_
  refine lv_iload cx.1 cx.2.1 dX12_newVariable_47 (lv_at hl 5 rfl) ?_
  obtain ⟨σ5, e_σ5, h⟩ := md_ob h
  refine md_sZ (k := 54) hj cx hw (by decide) rfl rfl rfl e_σ5 dX12_newVariable_49 (fun H locs hw => ?_)
  refine lv_iload cx.1 cx.2.1 dX12_newVariable_50 (lv_at hl 0 rfl) ?_
  exact hp_iret cx hw (md_ret h) dX12_newVariable_52
set_option maxHeartbeats 4000000 in
set_option maxRecDepth 100000 in
theorem km_X12_binds (l : Launch) (D : va_G) (cA : Nat → ClassId) (E : hp_N) (sz : Nat) (ad : Nat → Nat) (hj : md_inj ad) (hE : md_E E) (n : Nat) (σ0 : md_S) (a1 : Int32) (p : (Int32 × md_S)) (h : f_X12_binds n σ0 a1 = some p) : Met l yX12_binds (Cond.code yX12_binds cX12_binds 2 none :: v_MOD) ({ frames := 8, cells := 0, slots := 0, locals := 198 }) (hp_Pc D vwCl (hp_Tl cA) E sz (md_pic cA ad σ0) [.ref (ad 137), .int a1]) (hp_Qv D vwCl (hp_Tl cA) sz (md_pic cA ad σ0) (fun u => u = md_pic cA ad p.2)) 0 0 (hp_A (md_pic cA ad σ0) sz) := by
  refine hp_ofW (cc := cX12_binds) (maxL := 2) (ret := none) (by decide) rfl (Nat.le_of_ble_eq_true rfl) ?_
  intro pp ee ss mm bb mt cd ls cx hsz hw hl
  have hl : lv_has ls 2 [(0, .ref (ad 137)), (1, .int a1)] := hl
  refine lv_aload_n cx.1 cx.2.1 dX12_binds_0 rfl (lv_at hl 0 rfl) ?_
  obtain ⟨p1, e_p1, h⟩ := md_ob h
  refine hp_callVi (As := []) (rest := []) cx hw (km_X12_isName l D cA E _ ad hj hE n σ0  p1 e_p1) (cwV 0 cx.2.2.2.2.2.1 (md_giV mm_107 mm_108 mm_109 mm_5 mm_110) rfl rfl rfl hd_X12_isName ⟨Nat.le_of_ble_eq_true rfl, Nat.le_of_ble_eq_true rfl⟩) md_at0 rfl rfl hl.1 rfl (Nat.le_of_ble_eq_true rfl) dX12_binds_1 ⟨Nat.le_refl _, Nat.le_refl _⟩ (fun r u H locs hp hw => ?_)
  obtain ⟨rfl, rfl⟩ := hp
  refine lv_if_ne (tgt := 8) cx.1 cx.2.1 dX12_binds_4 (by decide) (fun c4 => ?_) (fun c4 => ?_)
  · have h := md_in c4 h
    refine lv_aload_n cx.1 cx.2.1 dX12_binds_8 rfl (lv_at hl 0 rfl) ?_
    refine md_gI (k := 56) cx hw hin12c rfl (by decide) (List.mem_cons_of_mem _ mm_208) dX12_binds_9 ?_
    refine lv_bipush (v := 12) cx.1 cx.2.1 dX12_binds_12 (by decide) ?_
    refine lv_icmp_ne (tgt := 23) cx.1 cx.2.1 dX12_binds_14 (by decide) (fun c14 => ?_) (fun c14 => ?_)
    · have h := md_in c14 h
      refine lv_aload_n cx.1 cx.2.1 dX12_binds_23 rfl (lv_at hl 0 rfl) ?_
      refine lv_aload_n cx.1 cx.2.1 dX12_binds_24 rfl (lv_at hl 0 rfl) ?_
      refine lv_aload_n cx.1 cx.2.1 dX12_binds_25 rfl (lv_at hl 0 rfl) ?_
      refine md_gI (k := 64) cx hw hin12c rfl (by decide) (List.mem_cons_of_mem _ mm_130) dX12_binds_26 ?_
      refine lv_aload_n cx.1 cx.2.1 dX12_binds_29 rfl (lv_at hl 0 rfl) ?_
      refine md_gJ (k := 12) cx hw hin12c rfl (by decide) (List.mem_cons_of_mem _ mm_41) dX12_binds_30 ?_
      refine lv_iload_n cx.1 cx.2.1 dX12_binds_33 rfl (lv_at hl 1 rfl) ?_
      refine lv_iconst (v := 1) cx.1 cx.2.1 dX12_binds_34 (by decide) ?_
      obtain ⟨p2, e_p2, h⟩ := md_ob h
      refine hp_callVi (As := [.int (mI p1.2 64), .long (mJ p1.2 12), .int a1, .int 1]) (rest := [.ref (ad 137)]) cx hw (km_X12_newVariable l D cA E _ ad hj hE n p1.2 ((mI p1.2 64)) ((mJ p1.2 12)) a1 (1 : Int32) p2 e_p2) (cwV 4 cx.2.2.2.2.2.1 (md_giV mm_214 mm_215 mm_216 mm_5 mm_217) rfl rfl rfl hd_X12_newVariable ⟨Nat.le_of_ble_eq_true rfl, Nat.le_of_ble_eq_true rfl⟩) md_at0 rfl rfl hl.1 rfl (Nat.le_of_ble_eq_true rfl) dX12_binds_35 ⟨Nat.le_refl _, Nat.le_refl _⟩ (fun r u H locs hp hw => ?_)
      obtain ⟨rfl, rfl⟩ := hp
      obtain ⟨σ3, e_σ3, h⟩ := md_ob h
      refine md_pI (k := 73) cx hw hin12c rfl (by decide) rfl (List.mem_cons_of_mem _ mm_218) rfl e_σ3 dX12_binds_38 (fun H locs hw => ?_)
      refine lv_aload_n cx.1 cx.2.1 dX12_binds_41 rfl (lv_at hl 0 rfl) ?_
      obtain ⟨p4, e_p4, h⟩ := md_ob h
      refine hp_callVv (As := []) (rest := []) cx hw (km_X12_next l D cA E _ ad hj hE n σ3  p4 e_p4) (cwV 0 cx.2.2.2.2.2.1 (md_giV mm_92 mm_93 mm_94 mm_5 mm_95) rfl rfl rfl hd_X12_next ⟨Nat.le_of_ble_eq_true rfl, Nat.le_of_ble_eq_true rfl⟩) md_at0 rfl rfl hl.1 rfl (Nat.le_of_ble_eq_true rfl) dX12_binds_42 ⟨Nat.le_refl _, Nat.le_refl _⟩ (fun u H locs hp hw => ?_)
      obtain rfl := hp
      exact hp_vret cx hw (md_retv h) dX12_binds_45
    · have h := md_ip c14 h
      refine lv_aload_n cx.1 cx.2.1 dX12_binds_17 rfl (lv_at hl 0 rfl) ?_
      refine lv_iconst (v := 4) cx.1 cx.2.1 dX12_binds_18 (by decide) ?_
      obtain ⟨p5, e_p5, h⟩ := md_ob h
      refine hp_callVv (As := [.int 4]) (rest := []) cx hw (km_X12_fails l D cA E _ ad hj hE n p1.2 (4 : Int32) p5 e_p5) (cwV 1 cx.2.2.2.2.2.1 (md_giV mm_54 mm_55 mm_56 mm_5 mm_57) rfl rfl rfl hd_X12_fails ⟨Nat.le_of_ble_eq_true rfl, Nat.le_of_ble_eq_true rfl⟩) md_at0 rfl rfl hl.1 rfl (Nat.le_of_ble_eq_true rfl) dX12_binds_19 ⟨Nat.le_refl _, Nat.le_refl _⟩ (fun u H locs hp hw => ?_)
      obtain rfl := hp
      exact hp_vret cx hw (md_retv h) dX12_binds_22
  · have h := md_ip c4 h
    exact hp_vret cx hw (md_retv h) dX12_binds_7
set_option maxHeartbeats 4000000 in
set_option maxRecDepth 100000 in
theorem km_X12_letE (l : Launch) (D : va_G) (cA : Nat → ClassId) (E : hp_N) (sz : Nat) (ad : Nat → Nat) (hj : md_inj ad) (hE : md_E E) (n d : Nat) (rec : md_R) (ih7 : ∀ (sz : Nat) (σ : md_S) (b0 : Int32) (b1 : Int32) (p : Int32 × md_S), rec 7 b0 b1 0 σ = some p → Met l yX12_around (Cond.code yX12_around cX12_around 3 none :: v_MOD) ({ frames := d + 10, cells := 0, slots := 0, locals := 25 * d + 244 }) (hp_Pc D vwCl (hp_Tl cA) E sz (md_pic cA ad σ) [.ref (ad 137), .int b0, .int b1]) (hp_Qv D vwCl (hp_Tl cA) sz (md_pic cA ad σ) (fun u => u = md_pic cA ad p.2)) 0 0 (hp_A (md_pic cA ad σ) sz)) (ih0 : ∀ (sz : Nat) (σ : md_S) (p : Int32 × md_S), rec 0 0 0 0 σ = some p → Met l yX12_e (Cond.code yX12_e cX12_e 2 (some .int) :: v_MOD) ({ frames := d + 10, cells := 0, slots := 0, locals := 25 * d + 244 }) (hp_Pc D vwCl (hp_Tl cA) E sz (md_pic cA ad σ) [.ref (ad 137)]) (hp_Qi D vwCl (hp_Tl cA) sz (md_pic cA ad σ) (fun r u => r = p.1 ∧ u = md_pic cA ad p.2)) 0 0 (hp_A (md_pic cA ad σ) sz)) (σ0 : md_S) (p : (Int32 × md_S)) (h : f_X12_letE n rec σ0 = some p) : Met l yX12_letE (Cond.code yX12_letE cX12_letE 4 (some .int) :: v_MOD) ({ frames := (d + 1) + 10, cells := 0, slots := 0, locals := 25 * ((d + 1)) + 244 }) (hp_Pc D vwCl (hp_Tl cA) E sz (md_pic cA ad σ0) [.ref (ad 137)]) (hp_Qi D vwCl (hp_Tl cA) sz (md_pic cA ad σ0) (fun r u => r = p.1 ∧ u = md_pic cA ad p.2)) 0 0 (hp_A (md_pic cA ad σ0) sz) := by
  refine hp_ofW (cc := cX12_letE) (maxL := 4) (ret := (some .int)) (by decide) rfl (Nat.le_of_ble_eq_true rfl) ?_
  intro pp ee ss mm bb mt cd ls cx hsz hw hl
  have hl : lv_has ls 4 [(0, .ref (ad 137))] := hl
  refine lv_aload_n cx.1 cx.2.1 dX12_letE_0 rfl (lv_at hl 0 rfl) ?_
  obtain ⟨p1, e_p1, h⟩ := md_ob h
  refine hp_callVi (As := []) (rest := []) cx hw (km_X12_countsPart l D cA E _ ad hj hE n σ0  p1 e_p1) (cwV 0 cx.2.2.2.2.2.1 (md_giV mm_187 mm_188 mm_189 mm_5 mm_190) rfl rfl rfl hd_X12_countsPart ⟨by dsimp only; omega, by dsimp only; omega⟩) md_at0 rfl rfl hl.1 rfl (Nat.le_of_ble_eq_true rfl) dX12_letE_1 ⟨Nat.le_refl _, Nat.le_refl _⟩ (fun r u H locs hp hw => ?_)
  obtain ⟨rfl, rfl⟩ := hp
  refine lv_if_ne (tgt := 9) cx.1 cx.2.1 dX12_letE_4 (by decide) (fun c4 => ?_) (fun c4 => ?_)
  · have h := md_in c4 h
    refine lv_aload_n cx.1 cx.2.1 dX12_letE_9 rfl (lv_at hl 0 rfl) ?_
    refine lv_bipush (v := 40) cx.1 cx.2.1 dX12_letE_10 (by decide) ?_
    refine lv_iconst (v := 0) cx.1 cx.2.1 dX12_letE_12 (by decide) ?_
    refine lv_iconst (v := 0) cx.1 cx.2.1 dX12_letE_13 (by decide) ?_
    obtain ⟨p2, e_p2, h⟩ := md_ob h
    refine hp_callVi (As := [.int 40, .int 0, .int 0]) (rest := []) cx hw (km_X12_node l D cA E _ ad hj hE n p1.2 (40 : Int32) (0 : Int32) (0 : Int32) p2 e_p2) (cwV 3 cx.2.2.2.2.2.1 (md_giV mm_191 mm_192 mm_193 mm_5 mm_194) rfl rfl rfl hd_X12_node ⟨by dsimp only; omega, by dsimp only; omega⟩) md_at0 rfl rfl hl.1 rfl (Nat.le_of_ble_eq_true rfl) dX12_letE_14 ⟨Nat.le_refl _, Nat.le_refl _⟩ (fun r u H locs hp hw => ?_)
    obtain ⟨rfl, rfl⟩ := hp
    refine lv_istore_n (lv' := [(1, .int p2.1), (0, .ref (ad 137))]) cx.1 cx.2.1 dX12_letE_17 rfl hl (by decide) rfl (fun ls hl => ?_)
    refine lv_aload_n cx.1 cx.2.1 dX12_letE_18 rfl (lv_at hl 1 rfl) ?_
    refine md_gR (k := 46) cx hw hin12c (by decide) (by decide) (List.mem_cons_of_mem _ mm_219) dX12_letE_19 ?_
    refine lv_aload_n cx.1 cx.2.1 dX12_letE_22 rfl (lv_at hl 1 rfl) ?_
    refine md_gI (k := 64) cx hw hin12c rfl (by decide) (List.mem_cons_of_mem _ mm_130) dX12_letE_23 ?_
    obtain ⟨v3, e_v3, h⟩ := md_ob h
    refine md_lI (k := 46) hj cx hw (by decide) rfl rfl rfl e_v3 dX12_letE_26 ?_
    refine lv_istore_n (lv' := [(2, .int v3), (1, .int p2.1), (0, .ref (ad 137))]) cx.1 cx.2.1 dX12_letE_27 rfl hl (by decide) rfl (fun ls hl => ?_)
    refine lv_aload_n cx.1 cx.2.1 dX12_letE_28 rfl (lv_at hl 2 rfl) ?_
    refine md_gR (k := 46) cx hw hin12c (by decide) (by decide) (List.mem_cons_of_mem _ mm_219) dX12_letE_29 ?_
    refine lv_aload_n cx.1 cx.2.1 dX12_letE_32 rfl (lv_at hl 2 rfl) ?_
    refine md_gI (k := 64) cx hw hin12c rfl (by decide) (List.mem_cons_of_mem _ mm_130) dX12_letE_33 ?_
    refine lv_dup2_11 cx.1 cx.2.1 dX12_letE_36 rfl rfl ?_
    obtain ⟨v4, e_v4, h⟩ := md_ob h
    refine md_lI (k := 46) hj cx hw (by decide) rfl rfl rfl e_v4 dX12_letE_37 ?_
    refine lv_iconst (v := 1) cx.1 cx.2.1 dX12_letE_38 (by decide) ?_
    refine lv_iadd cx.1 cx.2.1 dX12_letE_39 ?_
    obtain ⟨σ5, e_σ5, h⟩ := md_ob h
    refine md_sI (k := 46) hj cx hw (by decide) rfl rfl rfl e_σ5 dX12_letE_40 (fun H locs hw => ?_)
    refine lv_aload_n cx.1 cx.2.1 dX12_letE_41 rfl (lv_at hl 2 rfl) ?_
    obtain ⟨p6, e_p6, h⟩ := md_ob h
    refine hp_callVv (As := []) (rest := []) cx hw (km_X12_next l D cA E _ ad hj hE n σ5  p6 e_p6) (cwV 0 cx.2.2.2.2.2.1 (md_giV mm_92 mm_93 mm_94 mm_5 mm_95) rfl rfl rfl hd_X12_next ⟨by dsimp only; omega, by dsimp only; omega⟩) md_at0 rfl rfl hl.1 rfl (Nat.le_of_ble_eq_true rfl) dX12_letE_42 ⟨Nat.le_refl _, Nat.le_refl _⟩ (fun u H locs hp hw => ?_)
    obtain rfl := hp
    refine lv_aload_n cx.1 cx.2.1 dX12_letE_45 rfl (lv_at hl 2 rfl) ?_
    refine lv_iload_n cx.1 cx.2.1 dX12_letE_46 rfl (lv_at hl 0 rfl) ?_
    obtain ⟨p7, e_p7, h⟩ := md_ob h
    refine hp_callVv (As := [.int v3]) (rest := []) cx hw (km_X12_binds l D cA E _ ad hj hE n p6.2 v3 p7 e_p7) (cwV 1 cx.2.2.2.2.2.1 (md_giV mm_220 mm_221 mm_222 mm_5 mm_223) rfl rfl rfl hd_X12_binds ⟨by dsimp only; omega, by dsimp only; omega⟩) md_at0 rfl rfl hl.1 rfl (Nat.le_of_ble_eq_true rfl) dX12_letE_47 ⟨Nat.le_refl _, Nat.le_refl _⟩ (fun u H locs hp hw => ?_)
    obtain rfl := hp
    refine lv_aload_n cx.1 cx.2.1 dX12_letE_50 rfl (lv_at hl 2 rfl) ?_
    refine md_gI (k := 73) cx hw hin12c rfl (by decide) (List.mem_cons_of_mem _ mm_218) dX12_letE_51 ?_
    refine lv_istore_n (lv' := [(3, .int (mI p7.2 73)), (2, .int v3), (1, .int p2.1), (0, .ref (ad 137))]) cx.1 cx.2.1 dX12_letE_54 rfl hl (by decide) rfl (fun ls hl => ?_)
    refine lv_aload_n cx.1 cx.2.1 dX12_letE_55 rfl (lv_at hl 3 rfl) ?_
    refine md_gR (k := 68) cx hw hin12c (by decide) (by decide) (List.mem_cons_of_mem _ mm_131) dX12_letE_56 ?_
    refine lv_iload_n cx.1 cx.2.1 dX12_letE_59 rfl (lv_at hl 2 rfl) ?_
    refine lv_iload_n cx.1 cx.2.1 dX12_letE_60 rfl (lv_at hl 0 rfl) ?_
    obtain ⟨σ8, e_σ8, h⟩ := md_ob h
    refine md_sI (k := 68) hj cx hw (by decide) rfl rfl rfl e_σ8 dX12_letE_61 (fun H locs hw => ?_)
    refine lv_aload_n cx.1 cx.2.1 dX12_letE_62 rfl (lv_at hl 3 rfl) ?_
    refine lv_bipush (v := 61) cx.1 cx.2.1 dX12_letE_63 (by decide) ?_
    obtain ⟨p9, e_p9, h⟩ := md_ob h
    refine hp_callVv (As := [.int 61]) (rest := []) cx hw (km_X12_sign l D cA E _ ad hj hE n σ8 (61 : Int32) p9 e_p9) (cwV 1 cx.2.2.2.2.2.1 (md_giV mm_161 mm_162 mm_163 mm_5 mm_164) rfl rfl rfl hd_X12_sign ⟨by dsimp only; omega, by dsimp only; omega⟩) md_at0 rfl rfl hl.1 rfl (Nat.le_of_ble_eq_true rfl) dX12_letE_65 ⟨Nat.le_refl _, Nat.le_refl _⟩ (fun u H locs hp hw => ?_)
    obtain rfl := hp
    refine lv_aload_n cx.1 cx.2.1 dX12_letE_68 rfl (lv_at hl 3 rfl) ?_
    refine lv_iload_n cx.1 cx.2.1 dX12_letE_69 rfl (lv_at hl 2 rfl) ?_
    refine lv_aload_n cx.1 cx.2.1 dX12_letE_70 rfl (lv_at hl 3 rfl) ?_
    obtain ⟨p10, e_p10, h⟩ := md_ob h
    refine hp_callVi (As := []) (rest := [.int p2.1, .ref (ad 137)]) cx hw (ih0 _ p9.2  p10 e_p10) (cwV 0 cx.2.2.2.2.2.1 (md_giV mm_195 mm_196 mm_197 mm_5 mm_198) rfl rfl rfl hd_X12_e ⟨by dsimp only; omega, by dsimp only; omega⟩) md_at0 rfl rfl hl.1 rfl (Nat.le_of_ble_eq_true rfl) dX12_letE_71 ⟨Nat.le_refl _, Nat.le_refl _⟩ (fun r u H locs hp hw => ?_)
    obtain ⟨rfl, rfl⟩ := hp
    obtain ⟨p11, e_p11, h⟩ := md_ob h
    refine hp_callVv (As := [.int p2.1, .int p10.1]) (rest := []) cx hw (km_X12_gets l D cA E _ ad hj hE n p10.2 (p2.1) (p10.1) p11 e_p11) (cwV 2 cx.2.2.2.2.2.1 (md_giV mm_199 mm_200 mm_201 mm_5 mm_202) rfl rfl rfl hd_X12_gets ⟨by dsimp only; omega, by dsimp only; omega⟩) md_at0 rfl rfl hl.1 rfl (Nat.le_of_ble_eq_true rfl) dX12_letE_74 ⟨Nat.le_refl _, Nat.le_refl _⟩ (fun u H locs hp hw => ?_)
    obtain rfl := hp
    refine lv_aload_n cx.1 cx.2.1 dX12_letE_77 rfl (lv_at hl 3 rfl) ?_
    refine lv_iconst (v := 4) cx.1 cx.2.1 dX12_letE_78 (by decide) ?_
    obtain ⟨p12, e_p12, h⟩ := md_ob h
    refine hp_callVv (As := [.int 4]) (rest := []) cx hw (km_X12_key l D cA E _ ad hj hE n p11.2 (4 : Int32) p12 e_p12) (cwV 1 cx.2.2.2.2.2.1 (md_giV mm_203 mm_204 mm_205 mm_5 mm_206) rfl rfl rfl hd_X12_key ⟨by dsimp only; omega, by dsimp only; omega⟩) md_at0 rfl rfl hl.1 rfl (Nat.le_of_ble_eq_true rfl) dX12_letE_79 ⟨Nat.le_refl _, Nat.le_refl _⟩ (fun u H locs hp hw => ?_)
    obtain rfl := hp
    refine lv_aload_n cx.1 cx.2.1 dX12_letE_82 rfl (lv_at hl 3 rfl) ?_
    refine lv_iload_n cx.1 cx.2.1 dX12_letE_83 rfl (lv_at hl 0 rfl) ?_
    refine lv_iload_n cx.1 cx.2.1 dX12_letE_84 rfl (lv_at hl 2 rfl) ?_
    obtain ⟨p13, e_p13, h⟩ := md_ob h
    refine hp_callVv (As := [.int (mI p7.2 73), .int p2.1]) (rest := []) cx hw (ih7 _ p12.2 ((mI p7.2 73)) (p2.1) p13 e_p13) (cwV 2 cx.2.2.2.2.2.1 (md_giV mm_224 mm_225 mm_226 mm_5 mm_227) rfl rfl rfl hd_X12_around ⟨by dsimp only; omega, by dsimp only; omega⟩) md_at0 rfl rfl hl.1 rfl (Nat.le_of_ble_eq_true rfl) dX12_letE_85 ⟨Nat.le_refl _, Nat.le_refl _⟩ (fun u H locs hp hw => ?_)
    obtain rfl := hp
    refine lv_iload_n cx.1 cx.2.1 dX12_letE_88 rfl (lv_at hl 2 rfl) ?_
    exact hp_iret cx hw (md_ret h) dX12_letE_89
  · have h := md_ip c4 h
    refine lv_iconst (v := 0) cx.1 cx.2.1 dX12_letE_7 (by decide) ?_
    exact hp_iret cx hw (md_ret h) dX12_letE_8
set_option maxHeartbeats 4000000 in
set_option maxRecDepth 100000 in
theorem km_X12_operation (l : Launch) (D : va_G) (cA : Nat → ClassId) (E : hp_N) (sz : Nat) (ad : Nat → Nat) (hj : md_inj ad) (hE : md_E E) (n : Nat) (σ0 : md_S) (a1 : Int32) (a2 : Int32) (p : (Int32 × md_S)) (h : f_X12_operation n σ0 a1 a2 = some p) : Met l yX12_operation (Cond.code yX12_operation cX12_operation 4 (some .int) :: v_MOD) ({ frames := 8, cells := 0, slots := 0, locals := 198 }) (hp_Pc D vwCl (hp_Tl cA) E sz (md_pic cA ad σ0) [.ref (ad 137), .int a1, .int a2]) (hp_Qi D vwCl (hp_Tl cA) sz (md_pic cA ad σ0) (fun r u => r = p.1 ∧ u = md_pic cA ad p.2)) 0 0 (hp_A (md_pic cA ad σ0) sz) := by
  refine hp_ofW (cc := cX12_operation) (maxL := 4) (ret := (some .int)) (by decide) rfl (Nat.le_of_ble_eq_true rfl) ?_
  intro pp ee ss mm bb mt cd ls cx hsz hw hl
  have hl : lv_has ls 4 [(0, .ref (ad 137)), (1, .int a1), (2, .int a2)] := hl
  refine lv_aload_n cx.1 cx.2.1 dX12_operation_0 rfl (lv_at hl 0 rfl) ?_
  obtain ⟨p1, e_p1, h⟩ := md_ob h
  refine hp_callVi (As := []) (rest := []) cx hw (km_X12_countsPart l D cA E _ ad hj hE n σ0  p1 e_p1) (cwV 0 cx.2.2.2.2.2.1 (md_giV mm_187 mm_188 mm_189 mm_5 mm_190) rfl rfl rfl hd_X12_countsPart ⟨Nat.le_of_ble_eq_true rfl, Nat.le_of_ble_eq_true rfl⟩) md_at0 rfl rfl hl.1 rfl (Nat.le_of_ble_eq_true rfl) dX12_operation_1 ⟨Nat.le_refl _, Nat.le_refl _⟩ (fun r u H locs hp hw => ?_)
  obtain ⟨rfl, rfl⟩ := hp
  refine lv_if_ne (tgt := 9) cx.1 cx.2.1 dX12_operation_4 (by decide) (fun c4 => ?_) (fun c4 => ?_)
  · have h := md_in c4 h
    refine lv_aload_n cx.1 cx.2.1 dX12_operation_9 rfl (lv_at hl 0 rfl) ?_
    refine lv_iload_n cx.1 cx.2.1 dX12_operation_10 rfl (lv_at hl 1 rfl) ?_
    refine lv_iconst (v := 0) cx.1 cx.2.1 dX12_operation_11 (by decide) ?_
    refine lv_iconst (v := 0) cx.1 cx.2.1 dX12_operation_12 (by decide) ?_
    obtain ⟨p2, e_p2, h⟩ := md_ob h
    refine hp_callVi (As := [.int a1, .int 0, .int 0]) (rest := []) cx hw (km_X12_node l D cA E _ ad hj hE n p1.2 a1 (0 : Int32) (0 : Int32) p2 e_p2) (cwV 3 cx.2.2.2.2.2.1 (md_giV mm_191 mm_192 mm_193 mm_5 mm_194) rfl rfl rfl hd_X12_node ⟨Nat.le_of_ble_eq_true rfl, Nat.le_of_ble_eq_true rfl⟩) md_at0 rfl rfl hl.1 rfl (Nat.le_of_ble_eq_true rfl) dX12_operation_13 ⟨Nat.le_refl _, Nat.le_refl _⟩ (fun r u H locs hp hw => ?_)
    obtain ⟨rfl, rfl⟩ := hp
    refine lv_istore_n (lv' := [(3, .int p2.1), (0, .ref (ad 137)), (1, .int a1), (2, .int a2)]) cx.1 cx.2.1 dX12_operation_16 rfl hl (by decide) rfl (fun ls hl => ?_)
    refine lv_aload_n cx.1 cx.2.1 dX12_operation_17 rfl (lv_at hl 1 rfl) ?_
    refine lv_iload_n cx.1 cx.2.1 dX12_operation_18 rfl (lv_at hl 0 rfl) ?_
    refine lv_iload_n cx.1 cx.2.1 dX12_operation_19 rfl (lv_at hl 3 rfl) ?_
    obtain ⟨p3, e_p3, h⟩ := md_ob h
    refine hp_callVv (As := [.int p2.1, .int a2]) (rest := []) cx hw (km_X12_gets l D cA E _ ad hj hE n p2.2 (p2.1) a2 p3 e_p3) (cwV 2 cx.2.2.2.2.2.1 (md_giV mm_199 mm_200 mm_201 mm_5 mm_202) rfl rfl rfl hd_X12_gets ⟨Nat.le_of_ble_eq_true rfl, Nat.le_of_ble_eq_true rfl⟩) md_at0 rfl rfl hl.1 rfl (Nat.le_of_ble_eq_true rfl) dX12_operation_20 ⟨Nat.le_refl _, Nat.le_refl _⟩ (fun u H locs hp hw => ?_)
    obtain rfl := hp
    refine lv_aload_n cx.1 cx.2.1 dX12_operation_23 rfl (lv_at hl 1 rfl) ?_
    obtain ⟨p4, e_p4, h⟩ := md_ob h
    refine hp_callVv (As := []) (rest := []) cx hw (km_X12_next l D cA E _ ad hj hE n p3.2  p4 e_p4) (cwV 0 cx.2.2.2.2.2.1 (md_giV mm_92 mm_93 mm_94 mm_5 mm_95) rfl rfl rfl hd_X12_next ⟨Nat.le_of_ble_eq_true rfl, Nat.le_of_ble_eq_true rfl⟩) md_at0 rfl rfl hl.1 rfl (Nat.le_of_ble_eq_true rfl) dX12_operation_24 ⟨Nat.le_refl _, Nat.le_refl _⟩ (fun u H locs hp hw => ?_)
    obtain rfl := hp
    refine lv_iload_n cx.1 cx.2.1 dX12_operation_27 rfl (lv_at hl 0 rfl) ?_
    exact hp_iret cx hw (md_ret h) dX12_operation_28
  · have h := md_ip c4 h
    refine lv_iconst (v := 0) cx.1 cx.2.1 dX12_operation_7 (by decide) ?_
    exact hp_iret cx hw (md_ret h) dX12_operation_8
set_option maxHeartbeats 4000000 in
set_option maxRecDepth 100000 in
theorem km_X12_innerPrefix (l : Launch) (D : va_G) (cA : Nat → ClassId) (E : hp_N) (sz : Nat) (ad : Nat → Nat) (hj : md_inj ad) (hE : md_E E) (n d : Nat) (rec : md_R) (ih10 : ∀ (sz : Nat) (σ : md_S) (p : Int32 × md_S), rec 10 0 0 0 σ = some p → Met l yX12_prefix (Cond.code yX12_prefix cX12_prefix 2 (some .int) :: v_MOD) ({ frames := d + 10, cells := 0, slots := 0, locals := 25 * d + 244 }) (hp_Pc D vwCl (hp_Tl cA) E sz (md_pic cA ad σ) [.ref (ad 137)]) (hp_Qi D vwCl (hp_Tl cA) sz (md_pic cA ad σ) (fun r u => r = p.1 ∧ u = md_pic cA ad p.2)) 0 0 (hp_A (md_pic cA ad σ) sz)) (σ0 : md_S) (p : (Int32 × md_S)) (h : f_X12_innerPrefix n rec σ0 = some p) : Met l yX12_innerPrefix (Cond.code yX12_innerPrefix cX12_innerPrefix 2 (some .int) :: v_MOD) ({ frames := (d + 1) + 10, cells := 0, slots := 0, locals := 25 * ((d + 1)) + 244 }) (hp_Pc D vwCl (hp_Tl cA) E sz (md_pic cA ad σ0) [.ref (ad 137)]) (hp_Qi D vwCl (hp_Tl cA) sz (md_pic cA ad σ0) (fun r u => r = p.1 ∧ u = md_pic cA ad p.2)) 0 0 (hp_A (md_pic cA ad σ0) sz) := by
  refine hp_ofW (cc := cX12_innerPrefix) (maxL := 2) (ret := (some .int)) (by decide) rfl (Nat.le_of_ble_eq_true rfl) ?_
  intro pp ee ss mm bb mt cd ls cx hsz hw hl
  have hl : lv_has ls 2 [(0, .ref (ad 137))] := hl
  refine lv_aload_n cx.1 cx.2.1 dX12_innerPrefix_0 rfl (lv_at hl 0 rfl) ?_
  refine lv_aload_n cx.1 cx.2.1 dX12_innerPrefix_1 rfl (lv_at hl 0 rfl) ?_
  obtain ⟨p1, e_p1, h⟩ := md_ob h
  refine hp_callVi (As := []) (rest := [.ref (ad 137)]) cx hw (km_X12_beginsPrefix l D cA E _ ad hj hE n σ0  p1 e_p1) (cwV 0 cx.2.2.2.2.2.1 (md_giV mm_181 mm_182 mm_183 mm_5 mm_184) rfl rfl rfl hd_X12_beginsPrefix ⟨by dsimp only; omega, by dsimp only; omega⟩) md_at0 rfl rfl hl.1 rfl (Nat.le_of_ble_eq_true rfl) dX12_innerPrefix_2 ⟨Nat.le_refl _, Nat.le_refl _⟩ (fun r u H locs hp hw => ?_)
  obtain ⟨rfl, rfl⟩ := hp
  obtain ⟨p2, e_p2, h⟩ := md_ob h
  refine hp_callVi (As := [.int p1.1]) (rest := []) cx hw (km_X12_deeper l D cA E _ ad hj hE n p1.2 (p1.1) p2 e_p2) (cwV 1 cx.2.2.2.2.2.1 (md_giV mm_228 mm_229 mm_230 mm_5 mm_231) rfl rfl rfl hd_X12_deeper ⟨by dsimp only; omega, by dsimp only; omega⟩) md_at0 rfl rfl hl.1 rfl (Nat.le_of_ble_eq_true rfl) dX12_innerPrefix_5 ⟨Nat.le_refl _, Nat.le_refl _⟩ (fun r u H locs hp hw => ?_)
  obtain ⟨rfl, rfl⟩ := hp
  refine lv_if_ne (tgt := 13) cx.1 cx.2.1 dX12_innerPrefix_8 (by decide) (fun c8 => ?_) (fun c8 => ?_)
  · have h := md_in c8 h
    refine lv_aload_n cx.1 cx.2.1 dX12_innerPrefix_13 rfl (lv_at hl 0 rfl) ?_
    obtain ⟨p3, e_p3, h⟩ := md_ob h
    refine hp_callVi (As := []) (rest := []) cx hw (ih10 _ p2.2  p3 e_p3) (cwV 0 cx.2.2.2.2.2.1 (md_giV mm_232 mm_233 mm_234 mm_5 mm_235) rfl rfl rfl hd_X12_prefix ⟨by dsimp only; omega, by dsimp only; omega⟩) md_at0 rfl rfl hl.1 rfl (Nat.le_of_ble_eq_true rfl) dX12_innerPrefix_14 ⟨Nat.le_refl _, Nat.le_refl _⟩ (fun r u H locs hp hw => ?_)
    obtain ⟨rfl, rfl⟩ := hp
    refine lv_istore_n (lv' := [(1, .int p3.1), (0, .ref (ad 137))]) cx.1 cx.2.1 dX12_innerPrefix_17 rfl hl (by decide) rfl (fun ls hl => ?_)
    refine lv_aload_n cx.1 cx.2.1 dX12_innerPrefix_18 rfl (lv_at hl 1 rfl) ?_
    refine lv_dup cx.1 cx.2.1 dX12_innerPrefix_19 rfl ?_
    refine md_gI (k := 63) cx hw hin12c rfl (by decide) (List.mem_cons_of_mem _ mm_185) dX12_innerPrefix_20 ?_
    refine lv_iconst (v := 1) cx.1 cx.2.1 dX12_innerPrefix_23 (by decide) ?_
    refine lv_isub cx.1 cx.2.1 dX12_innerPrefix_24 ?_
    obtain ⟨σ4, e_σ4, h⟩ := md_ob h
    refine md_pI (k := 63) cx hw hin12c rfl (by decide) rfl (List.mem_cons_of_mem _ mm_185) rfl e_σ4 dX12_innerPrefix_25 (fun H locs hw => ?_)
    refine lv_iload_n cx.1 cx.2.1 dX12_innerPrefix_28 rfl (lv_at hl 0 rfl) ?_
    exact hp_iret cx hw (md_ret h) dX12_innerPrefix_29
  · have h := md_ip c8 h
    refine lv_iconst (v := 0) cx.1 cx.2.1 dX12_innerPrefix_11 (by decide) ?_
    exact hp_iret cx hw (md_ret h) dX12_innerPrefix_12
set_option maxHeartbeats 4000000 in
set_option maxRecDepth 100000 in
theorem km_X12_arguments (l : Launch) (D : va_G) (cA : Nat → ClassId) (E : hp_N) (sz : Nat) (ad : Nat → Nat) (hj : md_inj ad) (hE : md_E E) (n d : Nat) (rec : md_R) (ih0 : ∀ (sz : Nat) (σ : md_S) (p : Int32 × md_S), rec 0 0 0 0 σ = some p → Met l yX12_e (Cond.code yX12_e cX12_e 2 (some .int) :: v_MOD) ({ frames := d + 10, cells := 0, slots := 0, locals := 25 * d + 244 }) (hp_Pc D vwCl (hp_Tl cA) E sz (md_pic cA ad σ) [.ref (ad 137)]) (hp_Qi D vwCl (hp_Tl cA) sz (md_pic cA ad σ) (fun r u => r = p.1 ∧ u = md_pic cA ad p.2)) 0 0 (hp_A (md_pic cA ad σ) sz)) (σ0 : md_S) (a1 : Int32) (p : (Int32 × md_S)) (h : f_X12_arguments n rec σ0 a1 = some p) : Met l yX12_arguments (Cond.code yX12_arguments cX12_arguments 4 (some .int) :: v_MOD) ({ frames := (d + 1) + 10, cells := 0, slots := 0, locals := 25 * ((d + 1)) + 244 }) (hp_Pc D vwCl (hp_Tl cA) E sz (md_pic cA ad σ0) [.ref (ad 137), .int a1]) (hp_Qi D vwCl (hp_Tl cA) sz (md_pic cA ad σ0) (fun r u => r = p.1 ∧ u = md_pic cA ad p.2)) 0 0 (hp_A (md_pic cA ad σ0) sz) := by
  refine hp_ofW (cc := cX12_arguments) (maxL := 4) (ret := (some .int)) (by decide) rfl (Nat.le_of_ble_eq_true rfl) ?_
  intro pp ee ss mm bb mt cd ls cx hsz hw hl
  have hl : lv_has ls 4 [(0, .ref (ad 137)), (1, .int a1)] := hl
  refine lv_aload_n cx.1 cx.2.1 dX12_arguments_0 rfl (lv_at hl 0 rfl) ?_
  refine lv_bipush (v := 40) cx.1 cx.2.1 dX12_arguments_1 (by decide) ?_
  obtain ⟨p1, e_p1, h⟩ := md_ob h
  refine hp_callVv (As := [.int 40]) (rest := []) cx hw (km_X12_sign l D cA E _ ad hj hE n σ0 (40 : Int32) p1 e_p1) (cwV 1 cx.2.2.2.2.2.1 (md_giV mm_161 mm_162 mm_163 mm_5 mm_164) rfl rfl rfl hd_X12_sign ⟨by dsimp only; omega, by dsimp only; omega⟩) md_at0 rfl rfl hl.1 rfl (Nat.le_of_ble_eq_true rfl) dX12_arguments_3 ⟨Nat.le_refl _, Nat.le_refl _⟩ (fun u H locs hp hw => ?_)
  obtain rfl := hp
  refine lv_iconst (v := 0) cx.1 cx.2.1 dX12_arguments_6 (by decide) ?_
  refine lv_istore_n (lv' := [(2, .int 0), (0, .ref (ad 137)), (1, .int a1)]) cx.1 cx.2.1 dX12_arguments_7 rfl hl (by decide) rfl (fun ls hl => ?_)
  refine lv_aload_n cx.1 cx.2.1 dX12_arguments_8 rfl (lv_at hl 1 rfl) ?_
  refine lv_bipush (v := 41) cx.1 cx.2.1 dX12_arguments_9 (by decide) ?_
  obtain ⟨p2, e_p2, h⟩ := md_ob h
  refine hp_callVi (As := [.int 41]) (rest := []) cx hw (km_X12_isSign l D cA E _ ad hj hE n p1.2 (41 : Int32) p2 e_p2) (cwV 1 cx.2.2.2.2.2.1 (md_giV mm_84 mm_85 mm_86 mm_5 mm_87) rfl rfl rfl hd_X12_isSign ⟨by dsimp only; omega, by dsimp only; omega⟩) md_at0 rfl rfl hl.1 rfl (Nat.le_of_ble_eq_true rfl) dX12_arguments_11 ⟨Nat.le_refl _, Nat.le_refl _⟩ (fun r u H locs hp hw => ?_)
  obtain ⟨rfl, rfl⟩ := hp
  refine lv_if_eq (tgt := 23) cx.1 cx.2.1 dX12_arguments_14 (by decide) (fun c14 => ?_) (fun c14 => ?_)
  · have h := md_ip c14 h
    refine lv_iconst (v := 1) cx.1 cx.2.1 dX12_arguments_23 (by decide) ?_
    refine lv_istore_n (lv' := [(3, .int 1), (2, .int 0), (0, .ref (ad 137)), (1, .int a1)]) cx.1 cx.2.1 dX12_arguments_24 rfl hl (by decide) rfl (fun ls hl => ?_)
    have L25 : ∀ (j : Nat) (σ : md_S) (l1 : Int32) (l2 : Int32) (l3 : Int32) (q : ((Int32 × md_S) ⊕ (md_S × Int32 × Int32))) (H : Heap) (locs : List Loc) (ls : Array Slot), f_X12_arguments_L25 n rec l1 j σ l2 l3 = some q → hp_w D vwCl (hp_Tl cA) E (hp_A (md_pic cA ad σ0) sz) ss H locs (md_pic cA ad σ) → lv_has ls 4 [(0, .ref (ad 137)), (1, .int l1), (2, .int l2), (3, .int l3)] → (∀ t, q = Sum.inr t → ∀ (H : Heap) (locs : List Loc) (ls : Array Slot), hp_w D vwCl (hp_Tl cA) E (hp_A (md_pic cA ad σ0) sz) ss H locs (md_pic cA ad t.1) → lv_has ls 4 [(0, .ref (ad 137)), (2, .int t.2.1)] → W pp l ee ({ frames := (d + 1) + 10, cells := 0, slots := 0, locals := 25 * ((d + 1)) + 244 }) ss mm [.ref (ad 137), .int a1].toArray bb mt cd H locs 0 0 (MQ bb (hp_Qi D vwCl (hp_Tl cA) sz (md_pic cA ad σ0) (fun r u => r = p.1 ∧ u = md_pic cA ad p.2)) [.ref (ad 137), .int a1].toArray ss 0 0 (hp_A (md_pic cA ad σ0) sz)) (F0 mm 92 ls [])) → (∀ r, q = Sum.inl r → r = p) → W pp l ee ({ frames := (d + 1) + 10, cells := 0, slots := 0, locals := 25 * ((d + 1)) + 244 }) ss mm [.ref (ad 137), .int a1].toArray bb mt cd H locs 0 0 (MQ bb (hp_Qi D vwCl (hp_Tl cA) sz (md_pic cA ad σ0) (fun r u => r = p.1 ∧ u = md_pic cA ad p.2)) [.ref (ad 137), .int a1].toArray ss 0 0 (hp_A (md_pic cA ad σ0) sz)) (F0 mm 25 ls []) := by
      intro j
      induction j with
      | zero => intro σ l1 l2 l3 q H locs ls h; exact nomatch h
      | succ j ih =>
        intro σ l1 l2 l3 q H locs ls h hw hl K KR
        refine lv_iload_n cx.1 cx.2.1 dX12_arguments_25 rfl (lv_at hl 3 rfl) ?_
        refine lv_if_eq (tgt := 92) cx.1 cx.2.1 dX12_arguments_26 (by decide) (fun c26 => ?_) (fun c26 => ?_)
        · have h := md_ip c26 h
          exact K _ (Option.some.inj h).symm _ _ _ hw (lv_sub hl [0, 2] rfl)
        · have h := md_in c26 h
          refine lv_aload_n cx.1 cx.2.1 dX12_arguments_29 rfl (lv_at hl 0 rfl) ?_
          obtain ⟨p3, e_p3, h⟩ := md_ob h
          refine hp_callVi (As := []) (rest := []) cx hw (km_X12_isFine l D cA E _ ad hj hE n σ  p3 e_p3) (cwV 0 cx.2.2.2.2.2.1 (md_giV mm_64 mm_65 mm_66 mm_5 mm_67) rfl rfl rfl hd_X12_isFine ⟨by dsimp only; omega, by dsimp only; omega⟩) md_at0 rfl rfl hl.1 rfl (Nat.le_of_ble_eq_true rfl) dX12_arguments_30 ⟨Nat.le_refl _, Nat.le_refl _⟩ (fun r u H locs hp hw => ?_)
          obtain ⟨rfl, rfl⟩ := hp
          refine lv_if_eq (tgt := 92) cx.1 cx.2.1 dX12_arguments_33 (by decide) (fun c33 => ?_) (fun c33 => ?_)
          · have h := md_ip c33 h
            exact K _ (Option.some.inj h).symm _ _ _ hw (lv_sub hl [0, 2] rfl)
          · have h := md_in c33 h
            refine lv_iload_n cx.1 cx.2.1 dX12_arguments_36 rfl (lv_at hl 2 rfl) ?_
            refine lv_iconst (v := 3) cx.1 cx.2.1 dX12_arguments_37 (by decide) ?_
            refine lv_icmp_ne (tgt := 62) cx.1 cx.2.1 dX12_arguments_38 (by decide) (fun c38 => ?_) (fun c38 => ?_)
            · have h := md_in c38 h
              refine lv_aload_n cx.1 cx.2.1 dX12_arguments_62 rfl (lv_at hl 0 rfl) ?_
              refine lv_iload_n cx.1 cx.2.1 dX12_arguments_63 rfl (lv_at hl 1 rfl) ?_
              refine lv_aload_n cx.1 cx.2.1 dX12_arguments_64 rfl (lv_at hl 0 rfl) ?_
              obtain ⟨p4, e_p4, h⟩ := md_ob h
              refine hp_callVi (As := []) (rest := [.int l1, .ref (ad 137)]) cx hw (ih0 _ p3.2  p4 e_p4) (cwV 0 cx.2.2.2.2.2.1 (md_giV mm_195 mm_196 mm_197 mm_5 mm_198) rfl rfl rfl hd_X12_e ⟨by dsimp only; omega, by dsimp only; omega⟩) md_at0 rfl rfl hl.1 rfl (Nat.le_of_ble_eq_true rfl) dX12_arguments_65 ⟨Nat.le_refl _, Nat.le_refl _⟩ (fun r u H locs hp hw => ?_)
              obtain ⟨rfl, rfl⟩ := hp
              obtain ⟨p5, e_p5, h⟩ := md_ob h
              refine hp_callVv (As := [.int l1, .int p4.1]) (rest := []) cx hw (km_X12_gets l D cA E _ ad hj hE n p4.2 l1 (p4.1) p5 e_p5) (cwV 2 cx.2.2.2.2.2.1 (md_giV mm_199 mm_200 mm_201 mm_5 mm_202) rfl rfl rfl hd_X12_gets ⟨by dsimp only; omega, by dsimp only; omega⟩) md_at0 rfl rfl hl.1 rfl (Nat.le_of_ble_eq_true rfl) dX12_arguments_68 ⟨Nat.le_refl _, Nat.le_refl _⟩ (fun u H locs hp hw => ?_)
              obtain rfl := hp
              refine lv_iinc (v := (l2 + 1)) (lv' := [(2, .int (l2 + 1)), (0, .ref (ad 137)), (1, .int l1), (3, .int l3)]) cx.1 cx.2.1 dX12_arguments_71 hl (k := 2) rfl rfl (by decide) rfl (fun ls hl => ?_)
              refine lv_aload_n cx.1 cx.2.1 dX12_arguments_74 rfl (lv_at hl 1 rfl) ?_
              refine lv_bipush (v := 44) cx.1 cx.2.1 dX12_arguments_75 (by decide) ?_
              obtain ⟨p6, e_p6, h⟩ := md_ob h
              refine hp_callVi (As := [.int 44]) (rest := []) cx hw (km_X12_isSign l D cA E _ ad hj hE n p5.2 (44 : Int32) p6 e_p6) (cwV 1 cx.2.2.2.2.2.1 (md_giV mm_84 mm_85 mm_86 mm_5 mm_87) rfl rfl rfl hd_X12_isSign ⟨by dsimp only; omega, by dsimp only; omega⟩) md_at0 rfl rfl hl.1 rfl (Nat.le_of_ble_eq_true rfl) dX12_arguments_77 ⟨Nat.le_refl _, Nat.le_refl _⟩ (fun r u H locs hp hw => ?_)
              obtain ⟨rfl, rfl⟩ := hp
              refine lv_istore_n (lv' := [(3, .int p6.1), (2, .int (l2 + 1)), (0, .ref (ad 137)), (1, .int l1)]) cx.1 cx.2.1 dX12_arguments_80 rfl hl (by decide) rfl (fun ls hl => ?_)
              refine lv_iload_n cx.1 cx.2.1 dX12_arguments_81 rfl (lv_at hl 0 rfl) ?_
              refine lv_if_eq (tgt := 25) cx.1 cx.2.1 dX12_arguments_82 (by decide) (fun c82 => ?_) (fun c82 => ?_)
              · have h := md_ip c82 h
                exact ih p6.2 l1 ((l2 + 1)) (p6.1) q _ _ _ h hw (lv_sub hl [2, 3, 1, 0] rfl) K KR
              · have h := md_in c82 h
                refine lv_aload_n cx.1 cx.2.1 dX12_arguments_85 rfl (lv_at hl 2 rfl) ?_
                obtain ⟨p7, e_p7, h⟩ := md_ob h
                refine hp_callVv (As := []) (rest := []) cx hw (km_X12_next l D cA E _ ad hj hE n p6.2  p7 e_p7) (cwV 0 cx.2.2.2.2.2.1 (md_giV mm_92 mm_93 mm_94 mm_5 mm_95) rfl rfl rfl hd_X12_next ⟨by dsimp only; omega, by dsimp only; omega⟩) md_at0 rfl rfl hl.1 rfl (Nat.le_of_ble_eq_true rfl) dX12_arguments_86 ⟨Nat.le_refl _, Nat.le_refl _⟩ (fun u H locs hp hw => ?_)
                obtain rfl := hp
                refine lv_goto (tgt := 25) cx.1 cx.2.1 dX12_arguments_89 (by decide) ?_
                exact ih p7.2 l1 ((l2 + 1)) (p6.1) q _ _ _ h hw (lv_sub hl [2, 3, 1, 0] rfl) K KR
            · have h := md_ip c38 h
              refine lv_aload_n cx.1 cx.2.1 dX12_arguments_41 rfl (lv_at hl 0 rfl) ?_
              obtain ⟨p8, e_p8, h⟩ := md_ob h
              refine hp_callVi (As := []) (rest := []) cx hw (km_X12_beginsE l D cA E _ ad hj hE n p3.2  p8 e_p8) (cwV 0 cx.2.2.2.2.2.1 (md_giV mm_236 mm_237 mm_238 mm_5 mm_239) rfl rfl rfl hd_X12_beginsE ⟨by dsimp only; omega, by dsimp only; omega⟩) md_at0 rfl rfl hl.1 rfl (Nat.le_of_ble_eq_true rfl) dX12_arguments_42 ⟨Nat.le_refl _, Nat.le_refl _⟩ (fun r u H locs hp hw => ?_)
              obtain ⟨rfl, rfl⟩ := hp
              refine lv_if_eq (tgt := 56) cx.1 cx.2.1 dX12_arguments_45 (by decide) (fun c45 => ?_) (fun c45 => ?_)
              · have h := md_ip c45 h
                refine lv_aload_n cx.1 cx.2.1 dX12_arguments_56 rfl (lv_at hl 0 rfl) ?_
                obtain ⟨p9, e_p9, h⟩ := md_ob h
                refine hp_callVv (As := []) (rest := []) cx hw (km_X12_misfit l D cA E _ ad hj hE n p8.2  p9 e_p9) (cwV 0 cx.2.2.2.2.2.1 (md_giV mm_88 mm_89 mm_90 mm_5 mm_91) rfl rfl rfl hd_X12_misfit ⟨by dsimp only; omega, by dsimp only; omega⟩) md_at0 rfl rfl hl.1 rfl (Nat.le_of_ble_eq_true rfl) dX12_arguments_57 ⟨Nat.le_refl _, Nat.le_refl _⟩ (fun u H locs hp hw => ?_)
                obtain rfl := hp
                refine lv_iload_n cx.1 cx.2.1 dX12_arguments_60 rfl (lv_at hl 2 rfl) ?_
                exact hp_iret cx hw (md_ret (congrArg some (KR _ (Option.some.inj h).symm))) dX12_arguments_61
              · have h := md_in c45 h
                refine lv_aload_n cx.1 cx.2.1 dX12_arguments_48 rfl (lv_at hl 0 rfl) ?_
                refine lv_iconst (v := 4) cx.1 cx.2.1 dX12_arguments_49 (by decide) ?_
                obtain ⟨p10, e_p10, h⟩ := md_ob h
                refine hp_callVv (As := [.int 4]) (rest := []) cx hw (km_X12_fails l D cA E _ ad hj hE n p8.2 (4 : Int32) p10 e_p10) (cwV 1 cx.2.2.2.2.2.1 (md_giV mm_54 mm_55 mm_56 mm_5 mm_57) rfl rfl rfl hd_X12_fails ⟨by dsimp only; omega, by dsimp only; omega⟩) md_at0 rfl rfl hl.1 rfl (Nat.le_of_ble_eq_true rfl) dX12_arguments_50 ⟨Nat.le_refl _, Nat.le_refl _⟩ (fun u H locs hp hw => ?_)
                obtain rfl := hp
                refine lv_goto (tgt := 60) cx.1 cx.2.1 dX12_arguments_53 (by decide) ?_
                refine lv_iload_n cx.1 cx.2.1 dX12_arguments_60 rfl (lv_at hl 2 rfl) ?_
                exact hp_iret cx hw (md_ret (congrArg some (KR _ (Option.some.inj h).symm))) dX12_arguments_61
    obtain ⟨q11, e_q11, h⟩ := md_ob h
    refine L25 n p2.2 a1 0 1 q11 _ _ _ e_q11 hw (lv_sub hl [2, 3, 1, 0] rfl) (fun t11 hq11 H locs ls hw hl => ?_) (fun r hr => by subst hr; exact Option.some.inj h)
    subst hq11
    have h := md_inr h
    refine lv_aload_n cx.1 cx.2.1 dX12_arguments_92 rfl (lv_at hl 0 rfl) ?_
    refine lv_bipush (v := 41) cx.1 cx.2.1 dX12_arguments_93 (by decide) ?_
    obtain ⟨p12, e_p12, h⟩ := md_ob h
    refine hp_callVv (As := [.int 41]) (rest := []) cx hw (km_X12_sign l D cA E _ ad hj hE n t11.1 (41 : Int32) p12 e_p12) (cwV 1 cx.2.2.2.2.2.1 (md_giV mm_161 mm_162 mm_163 mm_5 mm_164) rfl rfl rfl hd_X12_sign ⟨by dsimp only; omega, by dsimp only; omega⟩) md_at0 rfl rfl hl.1 rfl (Nat.le_of_ble_eq_true rfl) dX12_arguments_95 ⟨Nat.le_refl _, Nat.le_refl _⟩ (fun u H locs hp hw => ?_)
    obtain rfl := hp
    refine lv_iload_n cx.1 cx.2.1 dX12_arguments_98 rfl (lv_at hl 1 rfl) ?_
    exact hp_iret cx hw (md_ret h) dX12_arguments_99
  · have h := md_in c14 h
    refine lv_aload_n cx.1 cx.2.1 dX12_arguments_17 rfl (lv_at hl 1 rfl) ?_
    obtain ⟨p13, e_p13, h⟩ := md_ob h
    refine hp_callVv (As := []) (rest := []) cx hw (km_X12_next l D cA E _ ad hj hE n p2.2  p13 e_p13) (cwV 0 cx.2.2.2.2.2.1 (md_giV mm_92 mm_93 mm_94 mm_5 mm_95) rfl rfl rfl hd_X12_next ⟨by dsimp only; omega, by dsimp only; omega⟩) md_at0 rfl rfl hl.1 rfl (Nat.le_of_ble_eq_true rfl) dX12_arguments_18 ⟨Nat.le_refl _, Nat.le_refl _⟩ (fun u H locs hp hw => ?_)
    obtain rfl := hp
    refine lv_iconst (v := 0) cx.1 cx.2.1 dX12_arguments_21 (by decide) ?_
    exact hp_iret cx hw (md_ret h) dX12_arguments_22
set_option maxHeartbeats 4000000 in
set_option maxRecDepth 100000 in
theorem km_X12_asking (l : Launch) (D : va_G) (cA : Nat → ClassId) (E : hp_N) (sz : Nat) (ad : Nat → Nat) (hj : md_inj ad) (hE : md_E E) (n d : Nat) (rec : md_R) (ih0 : ∀ (sz : Nat) (σ : md_S) (p : Int32 × md_S), rec 0 0 0 0 σ = some p → Met l yX12_e (Cond.code yX12_e cX12_e 2 (some .int) :: v_MOD) ({ frames := d + 10, cells := 0, slots := 0, locals := 25 * d + 244 }) (hp_Pc D vwCl (hp_Tl cA) E sz (md_pic cA ad σ) [.ref (ad 137)]) (hp_Qi D vwCl (hp_Tl cA) sz (md_pic cA ad σ) (fun r u => r = p.1 ∧ u = md_pic cA ad p.2)) 0 0 (hp_A (md_pic cA ad σ) sz)) (σ0 : md_S) (p : (Int32 × md_S)) (h : f_X12_asking n rec σ0 = some p) : Met l yX12_asking (Cond.code yX12_asking cX12_asking 3 (some .int) :: v_MOD) ({ frames := (d + 1) + 10, cells := 0, slots := 0, locals := 25 * ((d + 1)) + 244 }) (hp_Pc D vwCl (hp_Tl cA) E sz (md_pic cA ad σ0) [.ref (ad 137)]) (hp_Qi D vwCl (hp_Tl cA) sz (md_pic cA ad σ0) (fun r u => r = p.1 ∧ u = md_pic cA ad p.2)) 0 0 (hp_A (md_pic cA ad σ0) sz) := by
  refine hp_ofW (cc := cX12_asking) (maxL := 3) (ret := (some .int)) (by decide) rfl (Nat.le_of_ble_eq_true rfl) ?_
  intro pp ee ss mm bb mt cd ls cx hsz hw hl
  have hl : lv_has ls 3 [(0, .ref (ad 137))] := hl
  have J57 : ∀ (σ : md_S) (l1 : Int32) (t0 : Int32) (H : Heap) (locs : List Loc) (ls : Array Slot), f_X12_asking_J57 n rec σ l1 t0 = some p → hp_w D vwCl (hp_Tl cA) E (hp_A (md_pic cA ad σ0) sz) ss H locs (md_pic cA ad σ) → lv_has ls 3 [(0, .ref (ad 137)), (1, .int l1)] → W pp l ee ({ frames := (d + 1) + 10, cells := 0, slots := 0, locals := 25 * ((d + 1)) + 244 }) ss mm [.ref (ad 137)].toArray bb mt cd H locs 0 0 (MQ bb (hp_Qi D vwCl (hp_Tl cA) sz (md_pic cA ad σ0) (fun r u => r = p.1 ∧ u = md_pic cA ad p.2)) [.ref (ad 137)].toArray ss 0 0 (hp_A (md_pic cA ad σ0) sz)) (F0 mm 57 ls [.int t0, .ref (ad 137)]) := by
    intro σ l1 t0 H locs ls h hw hl
    refine lv_iload_n cx.1 cx.2.1 dX12_asking_57 rfl (lv_at hl 1 rfl) ?_
    refine lv_iconst (v := 0) cx.1 cx.2.1 dX12_asking_58 (by decide) ?_
    obtain ⟨p1, e_p1, h⟩ := md_ob h
    refine hp_callVi (As := [.int t0, .int l1, .int 0]) (rest := []) cx hw (km_X12_node l D cA E _ ad hj hE n σ t0 l1 (0 : Int32) p1 e_p1) (cwV 3 cx.2.2.2.2.2.1 (md_giV mm_191 mm_192 mm_193 mm_5 mm_194) rfl rfl rfl hd_X12_node ⟨by dsimp only; omega, by dsimp only; omega⟩) md_at0 rfl rfl hl.1 rfl (Nat.le_of_ble_eq_true rfl) dX12_asking_59 ⟨Nat.le_refl _, Nat.le_refl _⟩ (fun r u H locs hp hw => ?_)
    obtain ⟨rfl, rfl⟩ := hp
    refine lv_istore_n (lv' := [(2, .int p1.1), (0, .ref (ad 137)), (1, .int l1)]) cx.1 cx.2.1 dX12_asking_62 rfl hl (by decide) rfl (fun ls hl => ?_)
    refine lv_aload_n cx.1 cx.2.1 dX12_asking_63 rfl (lv_at hl 1 rfl) ?_
    obtain ⟨p2, e_p2, h⟩ := md_ob h
    refine hp_callVv (As := []) (rest := []) cx hw (km_X12_next l D cA E _ ad hj hE n p1.2  p2 e_p2) (cwV 0 cx.2.2.2.2.2.1 (md_giV mm_92 mm_93 mm_94 mm_5 mm_95) rfl rfl rfl hd_X12_next ⟨by dsimp only; omega, by dsimp only; omega⟩) md_at0 rfl rfl hl.1 rfl (Nat.le_of_ble_eq_true rfl) dX12_asking_64 ⟨Nat.le_refl _, Nat.le_refl _⟩ (fun u H locs hp hw => ?_)
    obtain rfl := hp
    refine lv_aload_n cx.1 cx.2.1 dX12_asking_67 rfl (lv_at hl 1 rfl) ?_
    obtain ⟨p3, e_p3, h⟩ := md_ob h
    refine hp_callVi (As := []) (rest := []) cx hw (km_X12_isName l D cA E _ ad hj hE n p2.2  p3 e_p3) (cwV 0 cx.2.2.2.2.2.1 (md_giV mm_107 mm_108 mm_109 mm_5 mm_110) rfl rfl rfl hd_X12_isName ⟨by dsimp only; omega, by dsimp only; omega⟩) md_at0 rfl rfl hl.1 rfl (Nat.le_of_ble_eq_true rfl) dX12_asking_68 ⟨Nat.le_refl _, Nat.le_refl _⟩ (fun r u H locs hp hw => ?_)
    obtain ⟨rfl, rfl⟩ := hp
    refine lv_if_ne (tgt := 76) cx.1 cx.2.1 dX12_asking_71 (by decide) (fun c71 => ?_) (fun c71 => ?_)
    · have h := md_in c71 h
      refine lv_aload_n cx.1 cx.2.1 dX12_asking_76 rfl (lv_at hl 1 rfl) ?_
      refine md_gR (k := 49) cx hw hin12c (by decide) (by decide) (List.mem_cons_of_mem _ mm_241) dX12_asking_77 ?_
      refine lv_iload_n cx.1 cx.2.1 dX12_asking_80 rfl (lv_at hl 2 rfl) ?_
      refine lv_aload_n cx.1 cx.2.1 dX12_asking_81 rfl (lv_at hl 1 rfl) ?_
      refine md_gJ (k := 12) cx hw hin12c rfl (by decide) (List.mem_cons_of_mem _ mm_41) dX12_asking_82 ?_
      obtain ⟨σ4, e_σ4, h⟩ := md_ob h
      refine md_sJ (k := 49) hj cx hw (by decide) rfl rfl rfl e_σ4 dX12_asking_85 (fun H locs hw => ?_)
      refine lv_aload_n cx.1 cx.2.1 dX12_asking_86 rfl (lv_at hl 1 rfl) ?_
      refine md_gR (k := 136) cx hw hin12c (by decide) (by decide) (List.mem_cons_of_mem _ mm_242) dX12_asking_87 ?_
      refine lv_iload_n cx.1 cx.2.1 dX12_asking_90 rfl (lv_at hl 2 rfl) ?_
      refine lv_iconst (v := 0) cx.1 cx.2.1 dX12_asking_91 (by decide) ?_
      obtain ⟨σ5, e_σ5, h⟩ := md_ob h
      refine md_sZ (k := 136) hj cx hw (by decide) rfl rfl rfl e_σ5 dX12_asking_92 (fun H locs hw => ?_)
      refine lv_aload_n cx.1 cx.2.1 dX12_asking_93 rfl (lv_at hl 1 rfl) ?_
      obtain ⟨p6, e_p6, h⟩ := md_ob h
      refine hp_callVv (As := []) (rest := []) cx hw (km_X12_next l D cA E _ ad hj hE n σ5  p6 e_p6) (cwV 0 cx.2.2.2.2.2.1 (md_giV mm_92 mm_93 mm_94 mm_5 mm_95) rfl rfl rfl hd_X12_next ⟨by dsimp only; omega, by dsimp only; omega⟩) md_at0 rfl rfl hl.1 rfl (Nat.le_of_ble_eq_true rfl) dX12_asking_94 ⟨Nat.le_refl _, Nat.le_refl _⟩ (fun u H locs hp hw => ?_)
      obtain rfl := hp
      refine lv_aload_n cx.1 cx.2.1 dX12_asking_97 rfl (lv_at hl 1 rfl) ?_
      refine lv_sipush (v := 240) cx.1 cx.2.1 dX12_asking_98 (by decide) ?_
      refine lv_iload_n cx.1 cx.2.1 dX12_asking_101 rfl (lv_at hl 2 rfl) ?_
      refine lv_iadd cx.1 cx.2.1 dX12_asking_102 ?_
      refine lv_iconst (v := 1) cx.1 cx.2.1 dX12_asking_103 (by decide) ?_
      obtain ⟨p7, e_p7, h⟩ := md_ob h
      refine hp_callVv (As := [.int ((240 : Int32) + l1), .int 1]) (rest := []) cx hw (km_X12_pattern l D cA E _ ad hj hE n p6.2 (((240 : Int32) + l1)) (1 : Int32) p7 e_p7) (cwV 2 cx.2.2.2.2.2.1 (md_giV mm_113 mm_114 mm_115 mm_5 mm_116) rfl rfl rfl hd_X12_pattern ⟨by dsimp only; omega, by dsimp only; omega⟩) md_at0 rfl rfl hl.1 rfl (Nat.le_of_ble_eq_true rfl) dX12_asking_104 ⟨Nat.le_refl _, Nat.le_refl _⟩ (fun u H locs hp hw => ?_)
      obtain rfl := hp
      refine lv_aload_n cx.1 cx.2.1 dX12_asking_107 rfl (lv_at hl 1 rfl) ?_
      refine lv_bipush (v := 91) cx.1 cx.2.1 dX12_asking_108 (by decide) ?_
      obtain ⟨p8, e_p8, h⟩ := md_ob h
      refine hp_callVi (As := [.int 91]) (rest := []) cx hw (km_X12_isSign l D cA E _ ad hj hE n p7.2 (91 : Int32) p8 e_p8) (cwV 1 cx.2.2.2.2.2.1 (md_giV mm_84 mm_85 mm_86 mm_5 mm_87) rfl rfl rfl hd_X12_isSign ⟨by dsimp only; omega, by dsimp only; omega⟩) md_at0 rfl rfl hl.1 rfl (Nat.le_of_ble_eq_true rfl) dX12_asking_110 ⟨Nat.le_refl _, Nat.le_refl _⟩ (fun r u H locs hp hw => ?_)
      obtain ⟨rfl, rfl⟩ := hp
      refine lv_if_eq (tgt := 142) cx.1 cx.2.1 dX12_asking_113 (by decide) (fun c113 => ?_) (fun c113 => ?_)
      · have h := md_ip c113 h
        refine lv_iload_n cx.1 cx.2.1 dX12_asking_142 rfl (lv_at hl 0 rfl) ?_
        exact hp_iret cx hw (md_ret h) dX12_asking_143
      · have h := md_in c113 h
        refine lv_aload_n cx.1 cx.2.1 dX12_asking_116 rfl (lv_at hl 1 rfl) ?_
        refine md_gR (k := 136) cx hw hin12c (by decide) (by decide) (List.mem_cons_of_mem _ mm_242) dX12_asking_117 ?_
        refine lv_iload_n cx.1 cx.2.1 dX12_asking_120 rfl (lv_at hl 2 rfl) ?_
        refine lv_iconst (v := 1) cx.1 cx.2.1 dX12_asking_121 (by decide) ?_
        obtain ⟨σ9, e_σ9, h⟩ := md_ob h
        refine md_sZ (k := 136) hj cx hw (by decide) rfl rfl rfl e_σ9 dX12_asking_122 (fun H locs hw => ?_)
        refine lv_aload_n cx.1 cx.2.1 dX12_asking_123 rfl (lv_at hl 1 rfl) ?_
        obtain ⟨p10, e_p10, h⟩ := md_ob h
        refine hp_callVv (As := []) (rest := []) cx hw (km_X12_next l D cA E _ ad hj hE n σ9  p10 e_p10) (cwV 0 cx.2.2.2.2.2.1 (md_giV mm_92 mm_93 mm_94 mm_5 mm_95) rfl rfl rfl hd_X12_next ⟨by dsimp only; omega, by dsimp only; omega⟩) md_at0 rfl rfl hl.1 rfl (Nat.le_of_ble_eq_true rfl) dX12_asking_124 ⟨Nat.le_refl _, Nat.le_refl _⟩ (fun u H locs hp hw => ?_)
        obtain rfl := hp
        refine lv_aload_n cx.1 cx.2.1 dX12_asking_127 rfl (lv_at hl 1 rfl) ?_
        refine lv_iload_n cx.1 cx.2.1 dX12_asking_128 rfl (lv_at hl 0 rfl) ?_
        refine lv_aload_n cx.1 cx.2.1 dX12_asking_129 rfl (lv_at hl 1 rfl) ?_
        obtain ⟨p11, e_p11, h⟩ := md_ob h
        refine hp_callVi (As := []) (rest := [.int p1.1, .ref (ad 137)]) cx hw (ih0 _ p10.2  p11 e_p11) (cwV 0 cx.2.2.2.2.2.1 (md_giV mm_195 mm_196 mm_197 mm_5 mm_198) rfl rfl rfl hd_X12_e ⟨by dsimp only; omega, by dsimp only; omega⟩) md_at0 rfl rfl hl.1 rfl (Nat.le_of_ble_eq_true rfl) dX12_asking_130 ⟨Nat.le_refl _, Nat.le_refl _⟩ (fun r u H locs hp hw => ?_)
        obtain ⟨rfl, rfl⟩ := hp
        obtain ⟨p12, e_p12, h⟩ := md_ob h
        refine hp_callVv (As := [.int p1.1, .int p11.1]) (rest := []) cx hw (km_X12_gets l D cA E _ ad hj hE n p11.2 (p1.1) (p11.1) p12 e_p12) (cwV 2 cx.2.2.2.2.2.1 (md_giV mm_199 mm_200 mm_201 mm_5 mm_202) rfl rfl rfl hd_X12_gets ⟨by dsimp only; omega, by dsimp only; omega⟩) md_at0 rfl rfl hl.1 rfl (Nat.le_of_ble_eq_true rfl) dX12_asking_133 ⟨Nat.le_refl _, Nat.le_refl _⟩ (fun u H locs hp hw => ?_)
        obtain rfl := hp
        refine lv_aload_n cx.1 cx.2.1 dX12_asking_136 rfl (lv_at hl 1 rfl) ?_
        refine lv_bipush (v := 93) cx.1 cx.2.1 dX12_asking_137 (by decide) ?_
        obtain ⟨p13, e_p13, h⟩ := md_ob h
        refine hp_callVv (As := [.int 93]) (rest := []) cx hw (km_X12_sign l D cA E _ ad hj hE n p12.2 (93 : Int32) p13 e_p13) (cwV 1 cx.2.2.2.2.2.1 (md_giV mm_161 mm_162 mm_163 mm_5 mm_164) rfl rfl rfl hd_X12_sign ⟨by dsimp only; omega, by dsimp only; omega⟩) md_at0 rfl rfl hl.1 rfl (Nat.le_of_ble_eq_true rfl) dX12_asking_139 ⟨Nat.le_refl _, Nat.le_refl _⟩ (fun u H locs hp hw => ?_)
        obtain rfl := hp
        refine lv_iload_n cx.1 cx.2.1 dX12_asking_142 rfl (lv_at hl 0 rfl) ?_
        exact hp_iret cx hw (md_ret h) dX12_asking_143
    · have h := md_ip c71 h
      refine lv_iload_n cx.1 cx.2.1 dX12_asking_74 rfl (lv_at hl 0 rfl) ?_
      exact hp_iret cx hw (md_ret h) dX12_asking_75
  refine lv_aload_n cx.1 cx.2.1 dX12_asking_0 rfl (lv_at hl 0 rfl) ?_
  obtain ⟨p14, e_p14, h⟩ := md_ob h
  refine hp_callVi (As := []) (rest := []) cx hw (km_X12_countsPart l D cA E _ ad hj hE n σ0  p14 e_p14) (cwV 0 cx.2.2.2.2.2.1 (md_giV mm_187 mm_188 mm_189 mm_5 mm_190) rfl rfl rfl hd_X12_countsPart ⟨by dsimp only; omega, by dsimp only; omega⟩) md_at0 rfl rfl hl.1 rfl (Nat.le_of_ble_eq_true rfl) dX12_asking_1 ⟨Nat.le_refl _, Nat.le_refl _⟩ (fun r u H locs hp hw => ?_)
  obtain ⟨rfl, rfl⟩ := hp
  refine lv_if_ne (tgt := 9) cx.1 cx.2.1 dX12_asking_4 (by decide) (fun c4 => ?_) (fun c4 => ?_)
  · have h := md_in c4 h
    refine lv_aload_n cx.1 cx.2.1 dX12_asking_9 rfl (lv_at hl 0 rfl) ?_
    refine md_gI (k := 48) cx hw hin12c rfl (by decide) (List.mem_cons_of_mem _ mm_240) dX12_asking_10 ?_
    refine lv_bipush (v := 24) cx.1 cx.2.1 dX12_asking_13 (by decide) ?_
    refine lv_icmp_ne (tgt := 25) cx.1 cx.2.1 dX12_asking_15 (by decide) (fun c15 => ?_) (fun c15 => ?_)
    · have h := md_in c15 h
      refine lv_aload_n cx.1 cx.2.1 dX12_asking_25 rfl (lv_at hl 0 rfl) ?_
      refine md_gI (k := 48) cx hw hin12c rfl (by decide) (List.mem_cons_of_mem _ mm_240) dX12_asking_26 ?_
      refine lv_istore_n (lv' := [(1, .int (mI p14.2 48)), (0, .ref (ad 137))]) cx.1 cx.2.1 dX12_asking_29 rfl hl (by decide) rfl (fun ls hl => ?_)
      refine lv_aload_n cx.1 cx.2.1 dX12_asking_30 rfl (lv_at hl 1 rfl) ?_
      refine lv_dup cx.1 cx.2.1 dX12_asking_31 rfl ?_
      refine md_gI (k := 48) cx hw hin12c rfl (by decide) (List.mem_cons_of_mem _ mm_240) dX12_asking_32 ?_
      refine lv_iconst (v := 1) cx.1 cx.2.1 dX12_asking_35 (by decide) ?_
      refine lv_iadd cx.1 cx.2.1 dX12_asking_36 ?_
      obtain ⟨σ15, e_σ15, h⟩ := md_ob h
      refine md_pI (k := 48) cx hw hin12c rfl (by decide) rfl (List.mem_cons_of_mem _ mm_240) rfl e_σ15 dX12_asking_37 (fun H locs hw => ?_)
      refine lv_aload_n cx.1 cx.2.1 dX12_asking_40 rfl (lv_at hl 1 rfl) ?_
      refine lv_aload_n cx.1 cx.2.1 dX12_asking_41 rfl (lv_at hl 1 rfl) ?_
      refine md_gI (k := 11) cx hw hin12c rfl (by decide) (List.mem_cons_of_mem _ mm_53) dX12_asking_42 ?_
      refine lv_bipush (v := 17) cx.1 cx.2.1 dX12_asking_45 (by decide) ?_
      refine lv_icmp_ne (tgt := 55) cx.1 cx.2.1 dX12_asking_47 (by decide) (fun c47 => ?_) (fun c47 => ?_)
      · have h := md_in c47 h
        refine lv_bipush (v := 26) cx.1 cx.2.1 dX12_asking_55 (by decide) ?_
        exact J57 σ15 ((mI p14.2 48)) 26 _ _ _ h hw (lv_sub hl [1, 0] rfl)
      · have h := md_ip c47 h
        refine lv_bipush (v := 25) cx.1 cx.2.1 dX12_asking_50 (by decide) ?_
        refine lv_goto (tgt := 57) cx.1 cx.2.1 dX12_asking_52 (by decide) ?_
        exact J57 σ15 ((mI p14.2 48)) 25 _ _ _ h hw (lv_sub hl [1, 0] rfl)
    · have h := md_ip c15 h
      refine lv_aload_n cx.1 cx.2.1 dX12_asking_18 rfl (lv_at hl 0 rfl) ?_
      refine lv_iconst (v := 4) cx.1 cx.2.1 dX12_asking_19 (by decide) ?_
      obtain ⟨p16, e_p16, h⟩ := md_ob h
      refine hp_callVv (As := [.int 4]) (rest := []) cx hw (km_X12_fails l D cA E _ ad hj hE n p14.2 (4 : Int32) p16 e_p16) (cwV 1 cx.2.2.2.2.2.1 (md_giV mm_54 mm_55 mm_56 mm_5 mm_57) rfl rfl rfl hd_X12_fails ⟨by dsimp only; omega, by dsimp only; omega⟩) md_at0 rfl rfl hl.1 rfl (Nat.le_of_ble_eq_true rfl) dX12_asking_20 ⟨Nat.le_refl _, Nat.le_refl _⟩ (fun u H locs hp hw => ?_)
      obtain rfl := hp
      refine lv_iconst (v := 0) cx.1 cx.2.1 dX12_asking_23 (by decide) ?_
      exact hp_iret cx hw (md_ret h) dX12_asking_24
  · have h := md_ip c4 h
    refine lv_iconst (v := 0) cx.1 cx.2.1 dX12_asking_7 (by decide) ?_
    exact hp_iret cx hw (md_ret h) dX12_asking_8
set_option maxHeartbeats 4000000 in
set_option maxRecDepth 100000 in
theorem km_X12_newUnit (l : Launch) (D : va_G) (cA : Nat → ClassId) (E : hp_N) (sz : Nat) (ad : Nat → Nat) (hj : md_inj ad) (hE : md_E E) (n : Nat) (σ0 : md_S) (a1 : Int32) (a2 : Int32) (a3 : Int32) (p : (Int32 × md_S)) (h : f_X12_newUnit n σ0 a1 a2 a3 = some p) : Met l yX12_newUnit (Cond.code yX12_newUnit cX12_newUnit 5 (some .int) :: v_MOD) ({ frames := 2, cells := 0, slots := 0, locals := 43 }) (hp_Pc D vwCl (hp_Tl cA) E sz (md_pic cA ad σ0) [.ref (ad 137), .int a1, .int a2, .int a3]) (hp_Qi D vwCl (hp_Tl cA) sz (md_pic cA ad σ0) (fun r u => r = p.1 ∧ u = md_pic cA ad p.2)) 0 0 (hp_A (md_pic cA ad σ0) sz) := by
  refine hp_ofW (cc := cX12_newUnit) (maxL := 5) (ret := (some .int)) (by decide) rfl (Nat.le_of_ble_eq_true rfl) ?_
  intro pp ee ss mm bb mt cd ls cx hsz hw hl
  have hl : lv_has ls 5 [(0, .ref (ad 137)), (1, .int a1), (2, .int a2), (3, .int a3)] := hl
  refine lv_aload_n cx.1 cx.2.1 dX12_newUnit_0 rfl (lv_at hl 0 rfl) ?_
  obtain ⟨p1, e_p1, h⟩ := md_ob h
  refine hp_callVi (As := []) (rest := []) cx hw (km_X12_isFine l D cA E _ ad hj hE n σ0  p1 e_p1) (cwV 0 cx.2.2.2.2.2.1 (md_giV mm_64 mm_65 mm_66 mm_5 mm_67) rfl rfl rfl hd_X12_isFine ⟨Nat.le_of_ble_eq_true rfl, Nat.le_of_ble_eq_true rfl⟩) md_at0 rfl rfl hl.1 rfl (Nat.le_of_ble_eq_true rfl) dX12_newUnit_1 ⟨Nat.le_refl _, Nat.le_refl _⟩ (fun r u H locs hp hw => ?_)
  obtain ⟨rfl, rfl⟩ := hp
  refine lv_if_ne (tgt := 9) cx.1 cx.2.1 dX12_newUnit_4 (by decide) (fun c4 => ?_) (fun c4 => ?_)
  · have h := md_in c4 h
    refine lv_aload_n cx.1 cx.2.1 dX12_newUnit_9 rfl (lv_at hl 0 rfl) ?_
    refine md_gI (k := 35) cx hw hin12c rfl (by decide) (List.mem_cons_of_mem _ mm_143) dX12_newUnit_10 ?_
    refine lv_bipush (v := 60) cx.1 cx.2.1 dX12_newUnit_13 (by decide) ?_
    refine lv_icmp_ne (tgt := 25) cx.1 cx.2.1 dX12_newUnit_15 (by decide) (fun c15 => ?_) (fun c15 => ?_)
    · have h := md_in c15 h
      refine lv_aload_n cx.1 cx.2.1 dX12_newUnit_25 rfl (lv_at hl 0 rfl) ?_
      refine md_gI (k := 35) cx hw hin12c rfl (by decide) (List.mem_cons_of_mem _ mm_143) dX12_newUnit_26 ?_
      refine lv_istore (lv' := [(4, .int (mI p1.2 35)), (0, .ref (ad 137)), (1, .int a1), (2, .int a2), (3, .int a3)]) cx.1 cx.2.1 dX12_newUnit_29 hl (by decide) rfl (fun ls hl => ?_)
      refine lv_aload_n cx.1 cx.2.1 dX12_newUnit_31 rfl (lv_at hl 1 rfl) ?_
      refine lv_dup cx.1 cx.2.1 dX12_newUnit_32 rfl ?_
      refine md_gI (k := 35) cx hw hin12c rfl (by decide) (List.mem_cons_of_mem _ mm_143) dX12_newUnit_33 ?_
      refine lv_iconst (v := 1) cx.1 cx.2.1 dX12_newUnit_36 (by decide) ?_
      refine lv_iadd cx.1 cx.2.1 dX12_newUnit_37 ?_
      obtain ⟨σ2, e_σ2, h⟩ := md_ob h
      refine md_pI (k := 35) cx hw hin12c rfl (by decide) rfl (List.mem_cons_of_mem _ mm_143) rfl e_σ2 dX12_newUnit_38 (fun H locs hw => ?_)
      refine lv_aload_n cx.1 cx.2.1 dX12_newUnit_41 rfl (lv_at hl 1 rfl) ?_
      refine md_gR (k := 36) cx hw hin12c (by decide) (by decide) (List.mem_cons_of_mem _ mm_139) dX12_newUnit_42 ?_
      refine lv_iload cx.1 cx.2.1 dX12_newUnit_45 (lv_at hl 0 rfl) ?_
      refine lv_iload_n cx.1 cx.2.1 dX12_newUnit_47 rfl (lv_at hl 2 rfl) ?_
      obtain ⟨σ3, e_σ3, h⟩ := md_ob h
      refine md_sI (k := 36) hj cx hw (by decide) rfl rfl rfl e_σ3 dX12_newUnit_48 (fun H locs hw => ?_)
      refine lv_aload_n cx.1 cx.2.1 dX12_newUnit_49 rfl (lv_at hl 1 rfl) ?_
      refine md_gR (k := 37) cx hw hin12c (by decide) (by decide) (List.mem_cons_of_mem _ mm_243) dX12_newUnit_50 ?_
      refine lv_iload cx.1 cx.2.1 dX12_newUnit_53 (lv_at hl 0 rfl) ?_
      refine lv_iload_n cx.1 cx.2.1 dX12_newUnit_55 rfl (lv_at hl 3 rfl) ?_
      obtain ⟨σ4, e_σ4, h⟩ := md_ob h
      refine md_sI (k := 37) hj cx hw (by decide) rfl rfl rfl e_σ4 dX12_newUnit_56 (fun H locs hw => ?_)
      refine lv_aload_n cx.1 cx.2.1 dX12_newUnit_57 rfl (lv_at hl 1 rfl) ?_
      refine md_gR (k := 38) cx hw hin12c (by decide) (by decide) (List.mem_cons_of_mem _ mm_244) dX12_newUnit_58 ?_
      refine lv_iload cx.1 cx.2.1 dX12_newUnit_61 (lv_at hl 0 rfl) ?_
      refine lv_aload_n cx.1 cx.2.1 dX12_newUnit_63 rfl (lv_at hl 1 rfl) ?_
      refine md_gI (k := 9) cx hw hin12c rfl (by decide) (List.mem_cons_of_mem _ mm_16) dX12_newUnit_64 ?_
      obtain ⟨σ5, e_σ5, h⟩ := md_ob h
      refine md_sI (k := 38) hj cx hw (by decide) rfl rfl rfl e_σ5 dX12_newUnit_67 (fun H locs hw => ?_)
      refine lv_aload_n cx.1 cx.2.1 dX12_newUnit_68 rfl (lv_at hl 1 rfl) ?_
      refine md_gR (k := 39) cx hw hin12c (by decide) (by decide) (List.mem_cons_of_mem _ mm_140) dX12_newUnit_69 ?_
      refine lv_iload cx.1 cx.2.1 dX12_newUnit_72 (lv_at hl 0 rfl) ?_
      refine lv_iconst (v := 0) cx.1 cx.2.1 dX12_newUnit_74 (by decide) ?_
      obtain ⟨σ6, e_σ6, h⟩ := md_ob h
      refine md_sI (k := 39) hj cx hw (by decide) rfl rfl rfl e_σ6 dX12_newUnit_75 (fun H locs hw => ?_)
      refine lv_aload_n cx.1 cx.2.1 dX12_newUnit_76 rfl (lv_at hl 1 rfl) ?_
      refine md_gR (k := 40) cx hw hin12c (by decide) (by decide) (List.mem_cons_of_mem _ mm_245) dX12_newUnit_77 ?_
      refine lv_iload cx.1 cx.2.1 dX12_newUnit_80 (lv_at hl 0 rfl) ?_
      refine lv_iload_n cx.1 cx.2.1 dX12_newUnit_82 rfl (lv_at hl 4 rfl) ?_
      obtain ⟨σ7, e_σ7, h⟩ := md_ob h
      refine md_sI (k := 40) hj cx hw (by decide) rfl rfl rfl e_σ7 dX12_newUnit_83 (fun H locs hw => ?_)
      refine lv_aload_n cx.1 cx.2.1 dX12_newUnit_84 rfl (lv_at hl 1 rfl) ?_
      refine md_gR (k := 44) cx hw hin12c (by decide) (by decide) (List.mem_cons_of_mem _ mm_246) dX12_newUnit_85 ?_
      refine lv_iload cx.1 cx.2.1 dX12_newUnit_88 (lv_at hl 0 rfl) ?_
      refine lv_iconst (v := 0) cx.1 cx.2.1 dX12_newUnit_90 (by decide) ?_
      obtain ⟨σ8, e_σ8, h⟩ := md_ob h
      refine md_sI (k := 44) hj cx hw (by decide) rfl rfl rfl e_σ8 dX12_newUnit_91 (fun H locs hw => ?_)
      refine lv_aload_n cx.1 cx.2.1 dX12_newUnit_92 rfl (lv_at hl 1 rfl) ?_
      refine md_gR (k := 46) cx hw hin12c (by decide) (by decide) (List.mem_cons_of_mem _ mm_219) dX12_newUnit_93 ?_
      refine lv_iload cx.1 cx.2.1 dX12_newUnit_96 (lv_at hl 0 rfl) ?_
      refine lv_iconst (v := 0) cx.1 cx.2.1 dX12_newUnit_98 (by decide) ?_
      obtain ⟨σ9, e_σ9, h⟩ := md_ob h
      refine md_sI (k := 46) hj cx hw (by decide) rfl rfl rfl e_σ9 dX12_newUnit_99 (fun H locs hw => ?_)
      refine lv_aload_n cx.1 cx.2.1 dX12_newUnit_100 rfl (lv_at hl 1 rfl) ?_
      refine md_gR (k := 42) cx hw hin12c (by decide) (by decide) (List.mem_cons_of_mem _ mm_247) dX12_newUnit_101 ?_
      refine lv_iload cx.1 cx.2.1 dX12_newUnit_104 (lv_at hl 0 rfl) ?_
      refine lv_iconst (v := (-1)) cx.1 cx.2.1 dX12_newUnit_106 (by decide) ?_
      obtain ⟨σ10, e_σ10, h⟩ := md_ob h
      refine md_sI (k := 42) hj cx hw (by decide) rfl rfl rfl e_σ10 dX12_newUnit_107 (fun H locs hw => ?_)
      refine lv_aload_n cx.1 cx.2.1 dX12_newUnit_108 rfl (lv_at hl 1 rfl) ?_
      refine md_gR (k := 55) cx hw hin12c (by decide) (by decide) (List.mem_cons_of_mem _ mm_248) dX12_newUnit_109 ?_
      refine lv_iload cx.1 cx.2.1 dX12_newUnit_112 (lv_at hl 0 rfl) ?_
      refine lv_iconst (v := (-1)) cx.1 cx.2.1 dX12_newUnit_114 (by decide) ?_
      obtain ⟨σ11, e_σ11, h⟩ := md_ob h
      refine md_sI (k := 55) hj cx hw (by decide) rfl rfl rfl e_σ11 dX12_newUnit_115 (fun H locs hw => ?_)
      refine lv_aload_n cx.1 cx.2.1 dX12_newUnit_116 rfl (lv_at hl 1 rfl) ?_
      refine md_gR (k := 43) cx hw hin12c (by decide) (by decide) (List.mem_cons_of_mem _ mm_141) dX12_newUnit_117 ?_
      refine lv_iload cx.1 cx.2.1 dX12_newUnit_120 (lv_at hl 0 rfl) ?_
      refine lv_aload_n cx.1 cx.2.1 dX12_newUnit_122 rfl (lv_at hl 1 rfl) ?_
      refine md_gJ (k := 12) cx hw hin12c rfl (by decide) (List.mem_cons_of_mem _ mm_41) dX12_newUnit_123 ?_
      obtain ⟨σ12, e_σ12, h⟩ := md_ob h
      refine md_sJ (k := 43) hj cx hw (by decide) rfl rfl rfl e_σ12 dX12_newUnit_126 (fun H locs hw => ?_)
      refine lv_iload cx.1 cx.2.1 dX12_newUnit_127 (lv_at hl 0 rfl) ?_
      exact hp_iret cx hw (md_ret h) dX12_newUnit_129
    · have h := md_ip c15 h
      refine lv_aload_n cx.1 cx.2.1 dX12_newUnit_18 rfl (lv_at hl 0 rfl) ?_
      refine lv_iconst (v := 4) cx.1 cx.2.1 dX12_newUnit_19 (by decide) ?_
      obtain ⟨p13, e_p13, h⟩ := md_ob h
      refine hp_callVv (As := [.int 4]) (rest := []) cx hw (km_X12_fails l D cA E _ ad hj hE n p1.2 (4 : Int32) p13 e_p13) (cwV 1 cx.2.2.2.2.2.1 (md_giV mm_54 mm_55 mm_56 mm_5 mm_57) rfl rfl rfl hd_X12_fails ⟨Nat.le_of_ble_eq_true rfl, Nat.le_of_ble_eq_true rfl⟩) md_at0 rfl rfl hl.1 rfl (Nat.le_of_ble_eq_true rfl) dX12_newUnit_20 ⟨Nat.le_refl _, Nat.le_refl _⟩ (fun u H locs hp hw => ?_)
      obtain rfl := hp
      refine lv_iconst (v := 0) cx.1 cx.2.1 dX12_newUnit_23 (by decide) ?_
      exact hp_iret cx hw (md_ret h) dX12_newUnit_24
  · have h := md_ip c4 h
    refine lv_iconst (v := 0) cx.1 cx.2.1 dX12_newUnit_7 (by decide) ?_
    exact hp_iret cx hw (md_ret h) dX12_newUnit_8
