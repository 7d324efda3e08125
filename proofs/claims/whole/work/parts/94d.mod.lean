set_option maxHeartbeats 4000000 in
set_option maxRecDepth 100000 in
theorem km_X12_parameters (l : Launch) (D : va_G) (cA : Nat → ClassId) (E : hp_N) (sz : Nat) (ad : Nat → Nat) (hj : md_inj ad) (hE : md_E E) (n : Nat) (σ0 : md_S) (a1 : Int32) (a2 : Int32) (p : (Int32 × md_S)) (h : f_X12_parameters n σ0 a1 a2 = some p) : Met l yX12_parameters (Cond.code yX12_parameters cX12_parameters 6 none :: v_MOD) ({ frames := 9, cells := 0, slots := 0, locals := 219 }) (hp_Pc D vwCl (hp_Tl cA) E sz (md_pic cA ad σ0) [.ref (ad 137), .int a1, .int a2]) (hp_Qv D vwCl (hp_Tl cA) sz (md_pic cA ad σ0) (fun u => u = md_pic cA ad p.2)) 0 0 (hp_A (md_pic cA ad σ0) sz) := by
  refine hp_ofW (cc := cX12_parameters) (maxL := 6) (ret := none) (by decide) rfl (Nat.le_of_ble_eq_true rfl) ?_
  intro pp ee ss mm bb mt cd ls cx hsz hw hl
  have hl : lv_has ls 6 [(0, .ref (ad 137)), (1, .int a1), (2, .int a2)] := hl
  refine lv_aload_n cx.1 cx.2.1 dX12_parameters_0 rfl (lv_at hl 0 rfl) ?_
  refine lv_bipush (v := 40) cx.1 cx.2.1 dX12_parameters_1 (by decide) ?_
  obtain ⟨p1, e_p1, h⟩ := md_ob h
  refine hp_callVv (As := [.int 40]) (rest := []) cx hw (km_X12_sign l D cA E _ ad hj hE n σ0 (40 : Int32) p1 e_p1) (cwV 1 cx.2.2.2.2.2.1 (md_giV mm_161 mm_162 mm_163 mm_5 mm_164) rfl rfl rfl hd_X12_sign ⟨Nat.le_of_ble_eq_true rfl, Nat.le_of_ble_eq_true rfl⟩) md_at0 rfl rfl hl.1 rfl (Nat.le_of_ble_eq_true rfl) dX12_parameters_3 ⟨Nat.le_refl _, Nat.le_refl _⟩ (fun u H locs hp hw => ?_)
  obtain rfl := hp
  refine lv_aload_n cx.1 cx.2.1 dX12_parameters_6 rfl (lv_at hl 0 rfl) ?_
  refine md_gI (k := 56) cx hw hin12c rfl (by decide) (List.mem_cons_of_mem _ mm_208) dX12_parameters_7 ?_
  refine lv_istore_n (lv' := [(3, .int (mI p1.2 56)), (0, .ref (ad 137)), (1, .int a1), (2, .int a2)]) cx.1 cx.2.1 dX12_parameters_10 rfl hl (by decide) rfl (fun ls hl => ?_)
  refine lv_aload_n cx.1 cx.2.1 dX12_parameters_11 rfl (lv_at hl 1 rfl) ?_
  obtain ⟨p2, e_p2, h⟩ := md_ob h
  refine hp_callVi (As := []) (rest := []) cx hw (km_X12_isFine l D cA E _ ad hj hE n p1.2  p2 e_p2) (cwV 0 cx.2.2.2.2.2.1 (md_giV mm_64 mm_65 mm_66 mm_5 mm_67) rfl rfl rfl hd_X12_isFine ⟨Nat.le_of_ble_eq_true rfl, Nat.le_of_ble_eq_true rfl⟩) md_at0 rfl rfl hl.1 rfl (Nat.le_of_ble_eq_true rfl) dX12_parameters_12 ⟨Nat.le_refl _, Nat.le_refl _⟩ (fun r u H locs hp hw => ?_)
  obtain ⟨rfl, rfl⟩ := hp
  refine lv_if_eq (tgt := 27) cx.1 cx.2.1 dX12_parameters_15 (by decide) (fun c15 => ?_) (fun c15 => ?_)
  · have h := md_ip c15 h
    exact hp_vret cx hw (md_retv h) dX12_parameters_27
  · have h := md_in c15 h
    refine lv_aload_n cx.1 cx.2.1 dX12_parameters_18 rfl (lv_at hl 1 rfl) ?_
    refine lv_bipush (v := 41) cx.1 cx.2.1 dX12_parameters_19 (by decide) ?_
    obtain ⟨p3, e_p3, h⟩ := md_ob h
    refine hp_callVi (As := [.int 41]) (rest := []) cx hw (km_X12_isSign l D cA E _ ad hj hE n p2.2 (41 : Int32) p3 e_p3) (cwV 1 cx.2.2.2.2.2.1 (md_giV mm_84 mm_85 mm_86 mm_5 mm_87) rfl rfl rfl hd_X12_isSign ⟨Nat.le_of_ble_eq_true rfl, Nat.le_of_ble_eq_true rfl⟩) md_at0 rfl rfl hl.1 rfl (Nat.le_of_ble_eq_true rfl) dX12_parameters_21 ⟨Nat.le_refl _, Nat.le_refl _⟩ (fun r u H locs hp hw => ?_)
    obtain ⟨rfl, rfl⟩ := hp
    refine lv_if_eq (tgt := 28) cx.1 cx.2.1 dX12_parameters_24 (by decide) (fun c24 => ?_) (fun c24 => ?_)
    · have h := md_ip c24 h
      refine lv_iconst (v := 1) cx.1 cx.2.1 dX12_parameters_28 (by decide) ?_
      refine lv_istore (lv' := [(4, .int 1), (3, .int (mI p1.2 56)), (0, .ref (ad 137)), (1, .int a1), (2, .int a2)]) cx.1 cx.2.1 dX12_parameters_29 hl (by decide) rfl (fun ls hl => ?_)
      have L31 : ∀ (j : Nat) (σ : md_S) (l1 : Int32) (l2 : Int32) (l3 : Int32) (l4 : Int32) (q : ((Int32 × md_S) ⊕ (md_S × Int32))) (H : Heap) (locs : List Loc) (ls : Array Slot), f_X12_parameters_L31 n l1 l2 l3 j σ l4 = some q → hp_w D vwCl (hp_Tl cA) E (hp_A (md_pic cA ad σ0) sz) ss H locs (md_pic cA ad σ) → lv_has ls 6 [(0, .ref (ad 137)), (1, .int l1), (2, .int l2), (3, .int l3), (4, .int l4)] → (∀ t, q = Sum.inr t → ∀ (H : Heap) (locs : List Loc) (ls : Array Slot), hp_w D vwCl (hp_Tl cA) E (hp_A (md_pic cA ad σ0) sz) ss H locs (md_pic cA ad t.1) → lv_has ls 6 [] → W pp l ee ({ frames := 9, cells := 0, slots := 0, locals := 219 }) ss mm [.ref (ad 137), .int a1, .int a2].toArray bb mt cd H locs 0 0 (MQ bb (hp_Qv D vwCl (hp_Tl cA) sz (md_pic cA ad σ0) (fun u => u = md_pic cA ad p.2)) [.ref (ad 137), .int a1, .int a2].toArray ss 0 0 (hp_A (md_pic cA ad σ0) sz)) (F0 mm 183 ls [])) → (∀ r, q = Sum.inl r → r = p) → W pp l ee ({ frames := 9, cells := 0, slots := 0, locals := 219 }) ss mm [.ref (ad 137), .int a1, .int a2].toArray bb mt cd H locs 0 0 (MQ bb (hp_Qv D vwCl (hp_Tl cA) sz (md_pic cA ad σ0) (fun u => u = md_pic cA ad p.2)) [.ref (ad 137), .int a1, .int a2].toArray ss 0 0 (hp_A (md_pic cA ad σ0) sz)) (F0 mm 31 ls []) := by
        intro j
        induction j with
        | zero => intro σ l1 l2 l3 l4 q H locs ls h; exact nomatch h
        | succ j ih =>
          intro σ l1 l2 l3 l4 q H locs ls h hw hl K KR
          have J62 : ∀ (σ : md_S) (H : Heap) (locs : List Loc) (ls : Array Slot), f_X12_parameters_J62 n l1 l2 l3 (f_X12_parameters_L31 n l1 l2 l3 j) σ = some q → hp_w D vwCl (hp_Tl cA) E (hp_A (md_pic cA ad σ0) sz) ss H locs (md_pic cA ad σ) → lv_has ls 6 [(0, .ref (ad 137))] → W pp l ee ({ frames := 9, cells := 0, slots := 0, locals := 219 }) ss mm [.ref (ad 137), .int a1, .int a2].toArray bb mt cd H locs 0 0 (MQ bb (hp_Qv D vwCl (hp_Tl cA) sz (md_pic cA ad σ0) (fun u => u = md_pic cA ad p.2)) [.ref (ad 137), .int a1, .int a2].toArray ss 0 0 (hp_A (md_pic cA ad σ0) sz)) (F0 mm 62 ls []) := by
            intro σ H locs ls h hw hl
            refine lv_aload_n cx.1 cx.2.1 dX12_parameters_62 rfl (lv_at hl 0 rfl) ?_
            refine lv_iconst (v := 4) cx.1 cx.2.1 dX12_parameters_63 (by decide) ?_
            obtain ⟨p4, e_p4, h⟩ := md_ob h
            refine hp_callVv (As := [.int 4]) (rest := []) cx hw (km_X12_fails l D cA E _ ad hj hE n σ (4 : Int32) p4 e_p4) (cwV 1 cx.2.2.2.2.2.1 (md_giV mm_54 mm_55 mm_56 mm_5 mm_57) rfl rfl rfl hd_X12_fails ⟨Nat.le_of_ble_eq_true rfl, Nat.le_of_ble_eq_true rfl⟩) md_at0 rfl rfl hl.1 rfl (Nat.le_of_ble_eq_true rfl) dX12_parameters_64 ⟨Nat.le_refl _, Nat.le_refl _⟩ (fun u H locs hp hw => ?_)
            obtain rfl := hp
            exact hp_vret cx hw (md_retv (congrArg some (KR _ (Option.some.inj h).symm))) dX12_parameters_67
          refine lv_iload cx.1 cx.2.1 dX12_parameters_31 (lv_at hl 4 rfl) ?_
          refine lv_if_eq (tgt := 183) cx.1 cx.2.1 dX12_parameters_33 (by decide) (fun c33 => ?_) (fun c33 => ?_)
          · have h := md_ip c33 h
            exact K _ (Option.some.inj h).symm _ _ _ hw (lv_sub hl [] rfl)
          · have h := md_in c33 h
            refine lv_aload_n cx.1 cx.2.1 dX12_parameters_36 rfl (lv_at hl 0 rfl) ?_
            obtain ⟨p5, e_p5, h⟩ := md_ob h
            refine hp_callVi (As := []) (rest := []) cx hw (km_X12_isName l D cA E _ ad hj hE n σ  p5 e_p5) (cwV 0 cx.2.2.2.2.2.1 (md_giV mm_107 mm_108 mm_109 mm_5 mm_110) rfl rfl rfl hd_X12_isName ⟨Nat.le_of_ble_eq_true rfl, Nat.le_of_ble_eq_true rfl⟩) md_at0 rfl rfl hl.1 rfl (Nat.le_of_ble_eq_true rfl) dX12_parameters_37 ⟨Nat.le_refl _, Nat.le_refl _⟩ (fun r u H locs hp hw => ?_)
            obtain ⟨rfl, rfl⟩ := hp
            refine lv_if_eq (tgt := 183) cx.1 cx.2.1 dX12_parameters_40 (by decide) (fun c40 => ?_) (fun c40 => ?_)
            · have h := md_ip c40 h
              exact K _ (Option.some.inj h).symm _ _ _ hw (lv_sub hl [] rfl)
            · have h := md_in c40 h
              refine lv_aload_n cx.1 cx.2.1 dX12_parameters_43 rfl (lv_at hl 0 rfl) ?_
              refine md_gR (k := 39) cx hw hin12c (by decide) (by decide) (List.mem_cons_of_mem _ mm_140) dX12_parameters_44 ?_
              refine lv_iload_n cx.1 cx.2.1 dX12_parameters_47 rfl (lv_at hl 1 rfl) ?_
              obtain ⟨v6, e_v6, h⟩ := md_ob h
              refine md_lI (k := 39) hj cx hw (by decide) rfl rfl rfl e_v6 dX12_parameters_48 ?_
              refine lv_iconst (v := 3) cx.1 cx.2.1 dX12_parameters_49 (by decide) ?_
              refine lv_icmp_eq (tgt := 62) cx.1 cx.2.1 dX12_parameters_50 (by decide) (fun c50 => ?_) (fun c50 => ?_)
              · have h := md_ip c50 h
                exact J62 p5.2 _ _ _ h hw (lv_sub hl [0] rfl)
              · have h := md_in c50 h
                refine lv_aload_n cx.1 cx.2.1 dX12_parameters_53 rfl (lv_at hl 0 rfl) ?_
                refine md_gI (k := 56) cx hw hin12c rfl (by decide) (List.mem_cons_of_mem _ mm_208) dX12_parameters_54 ?_
                refine lv_bipush (v := 12) cx.1 cx.2.1 dX12_parameters_57 (by decide) ?_
                refine lv_icmp_ne (tgt := 68) cx.1 cx.2.1 dX12_parameters_59 (by decide) (fun c59 => ?_) (fun c59 => ?_)
                · have h := md_in c59 h
                  refine lv_iload_n cx.1 cx.2.1 dX12_parameters_68 rfl (lv_at hl 3 rfl) ?_
                  refine lv_istore (lv' := [(5, .int l3), (0, .ref (ad 137)), (1, .int l1), (2, .int l2), (3, .int l3), (4, .int l4)]) cx.1 cx.2.1 dX12_parameters_69 hl (by decide) rfl (fun ls hl => ?_)
                  have L71 : ∀ (j : Nat) (σ : md_S) (l1 : Int32) (l2 : Int32) (l3 : Int32) (l5 : Int32) (q : ((Int32 × md_S) ⊕ (md_S × Int32))) (H : Heap) (locs : List Loc) (ls : Array Slot), f_X12_parameters_L71 n l1 l2 l3 j σ l5 = some q → hp_w D vwCl (hp_Tl cA) E (hp_A (md_pic cA ad σ0) sz) ss H locs (md_pic cA ad σ) → lv_has ls 6 [(0, .ref (ad 137)), (1, .int l1), (2, .int l2), (3, .int l3), (5, .int l5)] → (∀ t, q = Sum.inr t → ∀ (H : Heap) (locs : List Loc) (ls : Array Slot), hp_w D vwCl (hp_Tl cA) E (hp_A (md_pic cA ad σ0) sz) ss H locs (md_pic cA ad t.1) → lv_has ls 6 [(0, .ref (ad 137)), (1, .int l1), (2, .int l2), (3, .int l3)] → W pp l ee ({ frames := 9, cells := 0, slots := 0, locals := 219 }) ss mm [.ref (ad 137), .int a1, .int a2].toArray bb mt cd H locs 0 0 (MQ bb (hp_Qv D vwCl (hp_Tl cA) sz (md_pic cA ad σ0) (fun u => u = md_pic cA ad p.2)) [.ref (ad 137), .int a1, .int a2].toArray ss 0 0 (hp_A (md_pic cA ad σ0) sz)) (F0 mm 112 ls [])) → (∀ r, q = Sum.inl r → r = p) → W pp l ee ({ frames := 9, cells := 0, slots := 0, locals := 219 }) ss mm [.ref (ad 137), .int a1, .int a2].toArray bb mt cd H locs 0 0 (MQ bb (hp_Qv D vwCl (hp_Tl cA) sz (md_pic cA ad σ0) (fun u => u = md_pic cA ad p.2)) [.ref (ad 137), .int a1, .int a2].toArray ss 0 0 (hp_A (md_pic cA ad σ0) sz)) (F0 mm 71 ls []) := by
                    intro j
                    induction j with
                    | zero => intro σ l1 l2 l3 l5 q H locs ls h; exact nomatch h
                    | succ j ih =>
                      intro σ l1 l2 l3 l5 q H locs ls h hw hl K KR
                      refine lv_iload cx.1 cx.2.1 dX12_parameters_71 (lv_at hl 4 rfl) ?_
                      refine lv_aload_n cx.1 cx.2.1 dX12_parameters_73 rfl (lv_at hl 0 rfl) ?_
                      refine md_gI (k := 56) cx hw hin12c rfl (by decide) (List.mem_cons_of_mem _ mm_208) dX12_parameters_74 ?_
                      refine lv_icmp_ge (tgt := 112) cx.1 cx.2.1 dX12_parameters_77 (by decide) (fun c77 => ?_) (fun c77 => ?_)
                      · have h := md_ip c77 h
                        exact K _ (Option.some.inj h).symm _ _ _ hw (lv_sub hl [0, 1, 2, 3] rfl)
                      · have h := md_in c77 h
                        refine lv_aload_n cx.1 cx.2.1 dX12_parameters_80 rfl (lv_at hl 0 rfl) ?_
                        refine md_gR (k := 52) cx hw hin12c (by decide) (by decide) (List.mem_cons_of_mem _ mm_211) dX12_parameters_81 ?_
                        refine lv_aload_n cx.1 cx.2.1 dX12_parameters_84 rfl (lv_at hl 0 rfl) ?_
                        refine md_gR (k := 57) cx hw hin12c (by decide) (by decide) (List.mem_cons_of_mem _ mm_207) dX12_parameters_85 ?_
                        refine lv_iload cx.1 cx.2.1 dX12_parameters_88 (lv_at hl 4 rfl) ?_
                        obtain ⟨v7, e_v7, h⟩ := md_ob h
                        refine md_lI (k := 57) hj cx hw (by decide) rfl rfl rfl e_v7 dX12_parameters_90 ?_
                        obtain ⟨v8, e_v8, h⟩ := md_ob h
                        refine md_lJ (k := 52) hj cx hw (by decide) rfl rfl rfl e_v8 dX12_parameters_91 ?_
                        refine lv_aload_n cx.1 cx.2.1 dX12_parameters_92 rfl (lv_at hl 0 rfl) ?_
                        refine md_gJ (k := 12) cx hw hin12c rfl (by decide) (List.mem_cons_of_mem _ mm_41) dX12_parameters_93 ?_
                        refine W.lcmp cx.1 cx.2.1 dX12_parameters_96 ?_
                        refine lv_if_ne (tgt := 106) cx.1 cx.2.1 dX12_parameters_97 (by decide) (fun c97 => ?_) (fun c97 => ?_)
                        · have h := md_in c97 h
                          refine lv_iinc (v := (l5 + 1)) (lv' := [(5, .int (l5 + 1)), (0, .ref (ad 137)), (1, .int l1), (2, .int l2), (3, .int l3)]) cx.1 cx.2.1 dX12_parameters_106 hl (k := 4) rfl rfl (by decide) rfl (fun ls hl => ?_)
                          refine lv_goto (tgt := 71) cx.1 cx.2.1 dX12_parameters_109 (by decide) ?_
                          exact ih σ l1 l2 l3 ((l5 + 1)) q _ _ _ h hw (lv_sub hl [1, 2, 3, 4, 0] rfl) K KR
                        · have h := md_ip c97 h
                          refine lv_aload_n cx.1 cx.2.1 dX12_parameters_100 rfl (lv_at hl 0 rfl) ?_
                          refine lv_iconst (v := 2) cx.1 cx.2.1 dX12_parameters_101 (by decide) ?_
                          obtain ⟨p9, e_p9, h⟩ := md_ob h
                          refine hp_callVv (As := [.int 2]) (rest := []) cx hw (km_X12_fails l D cA E _ ad hj hE n σ (2 : Int32) p9 e_p9) (cwV 1 cx.2.2.2.2.2.1 (md_giV mm_54 mm_55 mm_56 mm_5 mm_57) rfl rfl rfl hd_X12_fails ⟨Nat.le_of_ble_eq_true rfl, Nat.le_of_ble_eq_true rfl⟩) md_at0 rfl rfl hl.1 rfl (Nat.le_of_ble_eq_true rfl) dX12_parameters_102 ⟨Nat.le_refl _, Nat.le_refl _⟩ (fun u H locs hp hw => ?_)
                          obtain rfl := hp
                          exact hp_vret cx hw (md_retv (congrArg some (KR _ (Option.some.inj h).symm))) dX12_parameters_105
                  obtain ⟨q10, e_q10, h⟩ := md_ob h
                  refine L71 n p5.2 l1 l2 l3 l3 q10 _ _ _ e_q10 hw (lv_sub hl [1, 2, 3, 4, 0] rfl) (fun t10 hq10 H locs ls hw hl => ?_) (fun r hr => by subst hr; exact KR _ (Option.some.inj h).symm)
                  subst hq10
                  have h := md_inr h
                  refine lv_aload_n cx.1 cx.2.1 dX12_parameters_112 rfl (lv_at hl 0 rfl) ?_
                  refine md_gR (k := 57) cx hw hin12c (by decide) (by decide) (List.mem_cons_of_mem _ mm_207) dX12_parameters_113 ?_
                  refine lv_aload_n cx.1 cx.2.1 dX12_parameters_116 rfl (lv_at hl 0 rfl) ?_
                  refine md_gI (k := 56) cx hw hin12c rfl (by decide) (List.mem_cons_of_mem _ mm_208) dX12_parameters_117 ?_
                  refine lv_aload_n cx.1 cx.2.1 dX12_parameters_120 rfl (lv_at hl 0 rfl) ?_
                  refine lv_iload_n cx.1 cx.2.1 dX12_parameters_121 rfl (lv_at hl 1 rfl) ?_
                  refine lv_aload_n cx.1 cx.2.1 dX12_parameters_122 rfl (lv_at hl 0 rfl) ?_
                  refine md_gJ (k := 12) cx hw hin12c rfl (by decide) (List.mem_cons_of_mem _ mm_41) dX12_parameters_123 ?_
                  refine lv_iload_n cx.1 cx.2.1 dX12_parameters_126 rfl (lv_at hl 2 rfl) ?_
                  refine lv_aload_n cx.1 cx.2.1 dX12_parameters_127 rfl (lv_at hl 0 rfl) ?_
                  refine md_gR (k := 39) cx hw hin12c (by decide) (by decide) (List.mem_cons_of_mem _ mm_140) dX12_parameters_128 ?_
                  refine lv_iload_n cx.1 cx.2.1 dX12_parameters_131 rfl (lv_at hl 1 rfl) ?_
                  obtain ⟨v11, e_v11, h⟩ := md_ob h
                  refine md_lI (k := 39) hj cx hw (by decide) rfl rfl rfl e_v11 dX12_parameters_132 ?_
                  refine lv_iadd cx.1 cx.2.1 dX12_parameters_133 ?_
                  refine lv_iconst (v := 0) cx.1 cx.2.1 dX12_parameters_134 (by decide) ?_
                  obtain ⟨p12, e_p12, h⟩ := md_ob h
                  refine hp_callVi (As := [.int l1, .long (mJ t10.1 12), .int (l2 + v11), .int 0]) (rest := [.int (mI t10.1 56), .ref (ad 57)]) cx hw (km_X12_newVariable l D cA E _ ad hj hE n t10.1 l1 ((mJ t10.1 12)) ((l2 + v11)) (0 : Int32) p12 e_p12) (cwV 4 cx.2.2.2.2.2.1 (md_giV mm_214 mm_215 mm_216 mm_5 mm_217) rfl rfl rfl hd_X12_newVariable ⟨Nat.le_of_ble_eq_true rfl, Nat.le_of_ble_eq_true rfl⟩) md_at0 rfl rfl hl.1 rfl (Nat.le_of_ble_eq_true rfl) dX12_parameters_135 ⟨Nat.le_refl _, Nat.le_refl _⟩ (fun r u H locs hp hw => ?_)
                  obtain ⟨rfl, rfl⟩ := hp
                  obtain ⟨σ13, e_σ13, h⟩ := md_ob h
                  refine md_sI (k := 57) hj cx hw (by decide) rfl rfl rfl e_σ13 dX12_parameters_138 (fun H locs hw => ?_)
                  refine lv_aload_n cx.1 cx.2.1 dX12_parameters_139 rfl (lv_at hl 0 rfl) ?_
                  refine lv_dup cx.1 cx.2.1 dX12_parameters_140 rfl ?_
                  refine md_gI (k := 56) cx hw hin12c rfl (by decide) (List.mem_cons_of_mem _ mm_208) dX12_parameters_141 ?_
                  refine lv_iconst (v := 1) cx.1 cx.2.1 dX12_parameters_144 (by decide) ?_
                  refine lv_iadd cx.1 cx.2.1 dX12_parameters_145 ?_
                  obtain ⟨σ14, e_σ14, h⟩ := md_ob h
                  refine md_pI (k := 56) cx hw hin12c rfl (by decide) rfl (List.mem_cons_of_mem _ mm_208) rfl e_σ14 dX12_parameters_146 (fun H locs hw => ?_)
                  refine lv_aload_n cx.1 cx.2.1 dX12_parameters_149 rfl (lv_at hl 0 rfl) ?_
                  refine md_gR (k := 39) cx hw hin12c (by decide) (by decide) (List.mem_cons_of_mem _ mm_140) dX12_parameters_150 ?_
                  refine lv_iload_n cx.1 cx.2.1 dX12_parameters_153 rfl (lv_at hl 1 rfl) ?_
                  refine lv_dup2_11 cx.1 cx.2.1 dX12_parameters_154 rfl rfl ?_
                  obtain ⟨v15, e_v15, h⟩ := md_ob h
                  refine md_lI (k := 39) hj cx hw (by decide) rfl rfl rfl e_v15 dX12_parameters_155 ?_
                  refine lv_iconst (v := 1) cx.1 cx.2.1 dX12_parameters_156 (by decide) ?_
                  refine lv_iadd cx.1 cx.2.1 dX12_parameters_157 ?_
                  obtain ⟨σ16, e_σ16, h⟩ := md_ob h
                  refine md_sI (k := 39) hj cx hw (by decide) rfl rfl rfl e_σ16 dX12_parameters_158 (fun H locs hw => ?_)
                  refine lv_aload_n cx.1 cx.2.1 dX12_parameters_159 rfl (lv_at hl 0 rfl) ?_
                  obtain ⟨p17, e_p17, h⟩ := md_ob h
                  refine hp_callVv (As := []) (rest := []) cx hw (km_X12_next l D cA E _ ad hj hE n σ16  p17 e_p17) (cwV 0 cx.2.2.2.2.2.1 (md_giV mm_92 mm_93 mm_94 mm_5 mm_95) rfl rfl rfl hd_X12_next ⟨Nat.le_of_ble_eq_true rfl, Nat.le_of_ble_eq_true rfl⟩) md_at0 rfl rfl hl.1 rfl (Nat.le_of_ble_eq_true rfl) dX12_parameters_160 ⟨Nat.le_refl _, Nat.le_refl _⟩ (fun u H locs hp hw => ?_)
                  obtain rfl := hp
                  refine lv_aload_n cx.1 cx.2.1 dX12_parameters_163 rfl (lv_at hl 0 rfl) ?_
                  refine lv_bipush (v := 44) cx.1 cx.2.1 dX12_parameters_164 (by decide) ?_
                  obtain ⟨p18, e_p18, h⟩ := md_ob h
                  refine hp_callVi (As := [.int 44]) (rest := []) cx hw (km_X12_isSign l D cA E _ ad hj hE n p17.2 (44 : Int32) p18 e_p18) (cwV 1 cx.2.2.2.2.2.1 (md_giV mm_84 mm_85 mm_86 mm_5 mm_87) rfl rfl rfl hd_X12_isSign ⟨Nat.le_of_ble_eq_true rfl, Nat.le_of_ble_eq_true rfl⟩) md_at0 rfl rfl hl.1 rfl (Nat.le_of_ble_eq_true rfl) dX12_parameters_166 ⟨Nat.le_refl _, Nat.le_refl _⟩ (fun r u H locs hp hw => ?_)
                  obtain ⟨rfl, rfl⟩ := hp
                  refine lv_istore (lv' := [(4, .int p18.1), (0, .ref (ad 137)), (1, .int l1), (2, .int l2), (3, .int l3)]) cx.1 cx.2.1 dX12_parameters_169 hl (by decide) rfl (fun ls hl => ?_)
                  refine lv_iload cx.1 cx.2.1 dX12_parameters_171 (lv_at hl 0 rfl) ?_
                  refine lv_if_eq (tgt := 31) cx.1 cx.2.1 dX12_parameters_173 (by decide) (fun c173 => ?_) (fun c173 => ?_)
                  · have h := md_ip c173 h
                    exact ih p18.2 l1 l2 l3 (p18.1) q _ _ _ h hw (lv_sub hl [1, 2, 3, 4, 0] rfl) K KR
                  · have h := md_in c173 h
                    refine lv_aload_n cx.1 cx.2.1 dX12_parameters_176 rfl (lv_at hl 1 rfl) ?_
                    obtain ⟨p19, e_p19, h⟩ := md_ob h
                    refine hp_callVv (As := []) (rest := []) cx hw (km_X12_next l D cA E _ ad hj hE n p18.2  p19 e_p19) (cwV 0 cx.2.2.2.2.2.1 (md_giV mm_92 mm_93 mm_94 mm_5 mm_95) rfl rfl rfl hd_X12_next ⟨Nat.le_of_ble_eq_true rfl, Nat.le_of_ble_eq_true rfl⟩) md_at0 rfl rfl hl.1 rfl (Nat.le_of_ble_eq_true rfl) dX12_parameters_177 ⟨Nat.le_refl _, Nat.le_refl _⟩ (fun u H locs hp hw => ?_)
                    obtain rfl := hp
                    refine lv_goto (tgt := 31) cx.1 cx.2.1 dX12_parameters_180 (by decide) ?_
                    exact ih p19.2 l1 l2 l3 (p18.1) q _ _ _ h hw (lv_sub hl [1, 2, 3, 4, 0] rfl) K KR
                · have h := md_ip c59 h
                  exact J62 p5.2 _ _ _ h hw (lv_sub hl [0] rfl)
      obtain ⟨q20, e_q20, h⟩ := md_ob h
      refine L31 n p3.2 a1 a2 ((mI p1.2 56)) 1 q20 _ _ _ e_q20 hw (lv_sub hl [2, 3, 4, 1, 0] rfl) (fun t20 hq20 H locs ls hw hl => ?_) (fun r hr => by subst hr; exact Option.some.inj h)
      subst hq20
      have h := md_inr h
      exact hp_vret cx hw (md_retv h) dX12_parameters_183
    · have h := md_in c24 h
      exact hp_vret cx hw (md_retv h) dX12_parameters_27
set_option maxHeartbeats 4000000 in
set_option maxRecDepth 100000 in
theorem km_X12_row (l : Launch) (D : va_G) (cA : Nat → ClassId) (E : hp_N) (sz : Nat) (ad : Nat → Nat) (hj : md_inj ad) (hE : md_E E) (n d : Nat) (rec : md_R) (ih0 : ∀ (sz : Nat) (σ : md_S) (p : Int32 × md_S), rec 0 0 0 0 σ = some p → Met l yX12_e (Cond.code yX12_e cX12_e 2 (some .int) :: v_MOD) ({ frames := d + 10, cells := 0, slots := 0, locals := 25 * d + 244 }) (hp_Pc D vwCl (hp_Tl cA) E sz (md_pic cA ad σ) [.ref (ad 137)]) (hp_Qi D vwCl (hp_Tl cA) sz (md_pic cA ad σ) (fun r u => r = p.1 ∧ u = md_pic cA ad p.2)) 0 0 (hp_A (md_pic cA ad σ) sz)) (σ0 : md_S) (p : (Int32 × md_S)) (h : f_X12_row n rec σ0 = some p) : Met l yX12_row (Cond.code yX12_row cX12_row 3 (some .int) :: v_MOD) ({ frames := (d + 1) + 10, cells := 0, slots := 0, locals := 25 * ((d + 1)) + 244 }) (hp_Pc D vwCl (hp_Tl cA) E sz (md_pic cA ad σ0) [.ref (ad 137)]) (hp_Qi D vwCl (hp_Tl cA) sz (md_pic cA ad σ0) (fun r u => r = p.1 ∧ u = md_pic cA ad p.2)) 0 0 (hp_A (md_pic cA ad σ0) sz) := by
  refine hp_ofW (cc := cX12_row) (maxL := 3) (ret := (some .int)) (by decide) rfl (Nat.le_of_ble_eq_true rfl) ?_
  intro pp ee ss mm bb mt cd ls cx hsz hw hl
  have hl : lv_has ls 3 [(0, .ref (ad 137))] := hl
  refine lv_aload_n cx.1 cx.2.1 dX12_row_0 rfl (lv_at hl 0 rfl) ?_
  refine lv_bipush (v := 123) cx.1 cx.2.1 dX12_row_1 (by decide) ?_
  obtain ⟨p1, e_p1, h⟩ := md_ob h
  refine hp_callVv (As := [.int 123]) (rest := []) cx hw (km_X12_sign l D cA E _ ad hj hE n σ0 (123 : Int32) p1 e_p1) (cwV 1 cx.2.2.2.2.2.1 (md_giV mm_161 mm_162 mm_163 mm_5 mm_164) rfl rfl rfl hd_X12_sign ⟨by dsimp only; omega, by dsimp only; omega⟩) md_at0 rfl rfl hl.1 rfl (Nat.le_of_ble_eq_true rfl) dX12_row_3 ⟨Nat.le_refl _, Nat.le_refl _⟩ (fun u H locs hp hw => ?_)
  obtain rfl := hp
  refine lv_aload_n cx.1 cx.2.1 dX12_row_6 rfl (lv_at hl 0 rfl) ?_
  obtain ⟨p2, e_p2, h⟩ := md_ob h
  refine hp_callVi (As := []) (rest := []) cx hw (ih0 _ p1.2  p2 e_p2) (cwV 0 cx.2.2.2.2.2.1 (md_giV mm_195 mm_196 mm_197 mm_5 mm_198) rfl rfl rfl hd_X12_e ⟨by dsimp only; omega, by dsimp only; omega⟩) md_at0 rfl rfl hl.1 rfl (Nat.le_of_ble_eq_true rfl) dX12_row_7 ⟨Nat.le_refl _, Nat.le_refl _⟩ (fun r u H locs hp hw => ?_)
  obtain ⟨rfl, rfl⟩ := hp
  refine lv_istore_n (lv' := [(1, .int p2.1), (0, .ref (ad 137))]) cx.1 cx.2.1 dX12_row_10 rfl hl (by decide) rfl (fun ls hl => ?_)
  refine lv_aload_n cx.1 cx.2.1 dX12_row_11 rfl (lv_at hl 1 rfl) ?_
  refine lv_bipush (v := 59) cx.1 cx.2.1 dX12_row_12 (by decide) ?_
  obtain ⟨p3, e_p3, h⟩ := md_ob h
  refine hp_callVi (As := [.int 59]) (rest := []) cx hw (km_X12_isSign l D cA E _ ad hj hE n p2.2 (59 : Int32) p3 e_p3) (cwV 1 cx.2.2.2.2.2.1 (md_giV mm_84 mm_85 mm_86 mm_5 mm_87) rfl rfl rfl hd_X12_isSign ⟨by dsimp only; omega, by dsimp only; omega⟩) md_at0 rfl rfl hl.1 rfl (Nat.le_of_ble_eq_true rfl) dX12_row_14 ⟨Nat.le_refl _, Nat.le_refl _⟩ (fun r u H locs hp hw => ?_)
  obtain ⟨rfl, rfl⟩ := hp
  refine lv_if_ne (tgt := 28) cx.1 cx.2.1 dX12_row_17 (by decide) (fun c17 => ?_) (fun c17 => ?_)
  · have h := md_in c17 h
    refine lv_aload_n cx.1 cx.2.1 dX12_row_28 rfl (lv_at hl 1 rfl) ?_
    refine lv_bipush (v := 42) cx.1 cx.2.1 dX12_row_29 (by decide) ?_
    refine lv_iconst (v := 0) cx.1 cx.2.1 dX12_row_31 (by decide) ?_
    refine lv_iconst (v := 0) cx.1 cx.2.1 dX12_row_32 (by decide) ?_
    obtain ⟨p4, e_p4, h⟩ := md_ob h
    refine hp_callVi (As := [.int 42, .int 0, .int 0]) (rest := []) cx hw (km_X12_node l D cA E _ ad hj hE n p3.2 (42 : Int32) (0 : Int32) (0 : Int32) p4 e_p4) (cwV 3 cx.2.2.2.2.2.1 (md_giV mm_191 mm_192 mm_193 mm_5 mm_194) rfl rfl rfl hd_X12_node ⟨by dsimp only; omega, by dsimp only; omega⟩) md_at0 rfl rfl hl.1 rfl (Nat.le_of_ble_eq_true rfl) dX12_row_33 ⟨Nat.le_refl _, Nat.le_refl _⟩ (fun r u H locs hp hw => ?_)
    obtain ⟨rfl, rfl⟩ := hp
    refine lv_istore_n (lv' := [(2, .int p4.1), (1, .int p2.1), (0, .ref (ad 137))]) cx.1 cx.2.1 dX12_row_36 rfl hl (by decide) rfl (fun ls hl => ?_)
    refine lv_aload_n cx.1 cx.2.1 dX12_row_37 rfl (lv_at hl 2 rfl) ?_
    refine lv_iload_n cx.1 cx.2.1 dX12_row_38 rfl (lv_at hl 0 rfl) ?_
    refine lv_iload_n cx.1 cx.2.1 dX12_row_39 rfl (lv_at hl 1 rfl) ?_
    obtain ⟨p5, e_p5, h⟩ := md_ob h
    refine hp_callVv (As := [.int p4.1, .int p2.1]) (rest := []) cx hw (km_X12_gets l D cA E _ ad hj hE n p4.2 (p4.1) (p2.1) p5 e_p5) (cwV 2 cx.2.2.2.2.2.1 (md_giV mm_199 mm_200 mm_201 mm_5 mm_202) rfl rfl rfl hd_X12_gets ⟨by dsimp only; omega, by dsimp only; omega⟩) md_at0 rfl rfl hl.1 rfl (Nat.le_of_ble_eq_true rfl) dX12_row_40 ⟨Nat.le_refl _, Nat.le_refl _⟩ (fun u H locs hp hw => ?_)
    obtain rfl := hp
    have L43 : ∀ (j : Nat) (σ : md_S) (l2 : Int32) (q : (md_S)) (H : Heap) (locs : List Loc) (ls : Array Slot), f_X12_row_L43 n rec l2 j σ = some q → hp_w D vwCl (hp_Tl cA) E (hp_A (md_pic cA ad σ0) sz) ss H locs (md_pic cA ad σ) → lv_has ls 3 [(0, .ref (ad 137)), (2, .int l2)] → (∀ (H : Heap) (locs : List Loc) (ls : Array Slot), hp_w D vwCl (hp_Tl cA) E (hp_A (md_pic cA ad σ0) sz) ss H locs (md_pic cA ad q) → lv_has ls 3 [(0, .ref (ad 137)), (2, .int l2)] → W pp l ee ({ frames := (d + 1) + 10, cells := 0, slots := 0, locals := 25 * ((d + 1)) + 244 }) ss mm [.ref (ad 137)].toArray bb mt cd H locs 0 0 (MQ bb (hp_Qi D vwCl (hp_Tl cA) sz (md_pic cA ad σ0) (fun r u => r = p.1 ∧ u = md_pic cA ad p.2)) [.ref (ad 137)].toArray ss 0 0 (hp_A (md_pic cA ad σ0) sz)) (F0 mm 75 ls [])) → W pp l ee ({ frames := (d + 1) + 10, cells := 0, slots := 0, locals := 25 * ((d + 1)) + 244 }) ss mm [.ref (ad 137)].toArray bb mt cd H locs 0 0 (MQ bb (hp_Qi D vwCl (hp_Tl cA) sz (md_pic cA ad σ0) (fun r u => r = p.1 ∧ u = md_pic cA ad p.2)) [.ref (ad 137)].toArray ss 0 0 (hp_A (md_pic cA ad σ0) sz)) (F0 mm 43 ls []) := by
      intro j
      induction j with
      | zero => intro σ l2 q H locs ls h; exact nomatch h
      | succ j ih =>
        intro σ l2 q H locs ls h hw hl K
        refine lv_aload_n cx.1 cx.2.1 dX12_row_43 rfl (lv_at hl 0 rfl) ?_
        refine lv_bipush (v := 59) cx.1 cx.2.1 dX12_row_44 (by decide) ?_
        obtain ⟨p6, e_p6, h⟩ := md_ob h
        refine hp_callVi (As := [.int 59]) (rest := []) cx hw (km_X12_isSign l D cA E _ ad hj hE n σ (59 : Int32) p6 e_p6) (cwV 1 cx.2.2.2.2.2.1 (md_giV mm_84 mm_85 mm_86 mm_5 mm_87) rfl rfl rfl hd_X12_isSign ⟨by dsimp only; omega, by dsimp only; omega⟩) md_at0 rfl rfl hl.1 rfl (Nat.le_of_ble_eq_true rfl) dX12_row_46 ⟨Nat.le_refl _, Nat.le_refl _⟩ (fun r u H locs hp hw => ?_)
        obtain ⟨rfl, rfl⟩ := hp
        refine lv_if_eq (tgt := 75) cx.1 cx.2.1 dX12_row_49 (by decide) (fun c49 => ?_) (fun c49 => ?_)
        · have h := md_ip c49 h
          obtain rfl := Option.some.inj h
          exact K _ _ _ hw (lv_sub hl [0, 1] rfl)
        · have h := md_in c49 h
          refine lv_aload_n cx.1 cx.2.1 dX12_row_52 rfl (lv_at hl 0 rfl) ?_
          obtain ⟨p7, e_p7, h⟩ := md_ob h
          refine hp_callVi (As := []) (rest := []) cx hw (km_X12_countsPart l D cA E _ ad hj hE n p6.2  p7 e_p7) (cwV 0 cx.2.2.2.2.2.1 (md_giV mm_187 mm_188 mm_189 mm_5 mm_190) rfl rfl rfl hd_X12_countsPart ⟨by dsimp only; omega, by dsimp only; omega⟩) md_at0 rfl rfl hl.1 rfl (Nat.le_of_ble_eq_true rfl) dX12_row_53 ⟨Nat.le_refl _, Nat.le_refl _⟩ (fun r u H locs hp hw => ?_)
          obtain ⟨rfl, rfl⟩ := hp
          refine lv_if_eq (tgt := 75) cx.1 cx.2.1 dX12_row_56 (by decide) (fun c56 => ?_) (fun c56 => ?_)
          · have h := md_ip c56 h
            obtain rfl := Option.some.inj h
            exact K _ _ _ hw (lv_sub hl [0, 1] rfl)
          · have h := md_in c56 h
            refine lv_aload_n cx.1 cx.2.1 dX12_row_59 rfl (lv_at hl 0 rfl) ?_
            obtain ⟨p8, e_p8, h⟩ := md_ob h
            refine hp_callVv (As := []) (rest := []) cx hw (km_X12_next l D cA E _ ad hj hE n p7.2  p8 e_p8) (cwV 0 cx.2.2.2.2.2.1 (md_giV mm_92 mm_93 mm_94 mm_5 mm_95) rfl rfl rfl hd_X12_next ⟨by dsimp only; omega, by dsimp only; omega⟩) md_at0 rfl rfl hl.1 rfl (Nat.le_of_ble_eq_true rfl) dX12_row_60 ⟨Nat.le_refl _, Nat.le_refl _⟩ (fun u H locs hp hw => ?_)
            obtain rfl := hp
            refine lv_aload_n cx.1 cx.2.1 dX12_row_63 rfl (lv_at hl 0 rfl) ?_
            refine lv_iload_n cx.1 cx.2.1 dX12_row_64 rfl (lv_at hl 1 rfl) ?_
            refine lv_aload_n cx.1 cx.2.1 dX12_row_65 rfl (lv_at hl 0 rfl) ?_
            obtain ⟨p9, e_p9, h⟩ := md_ob h
            refine hp_callVi (As := []) (rest := [.int l2, .ref (ad 137)]) cx hw (ih0 _ p8.2  p9 e_p9) (cwV 0 cx.2.2.2.2.2.1 (md_giV mm_195 mm_196 mm_197 mm_5 mm_198) rfl rfl rfl hd_X12_e ⟨by dsimp only; omega, by dsimp only; omega⟩) md_at0 rfl rfl hl.1 rfl (Nat.le_of_ble_eq_true rfl) dX12_row_66 ⟨Nat.le_refl _, Nat.le_refl _⟩ (fun r u H locs hp hw => ?_)
            obtain ⟨rfl, rfl⟩ := hp
            obtain ⟨p10, e_p10, h⟩ := md_ob h
            refine hp_callVv (As := [.int l2, .int p9.1]) (rest := []) cx hw (km_X12_gets l D cA E _ ad hj hE n p9.2 l2 (p9.1) p10 e_p10) (cwV 2 cx.2.2.2.2.2.1 (md_giV mm_199 mm_200 mm_201 mm_5 mm_202) rfl rfl rfl hd_X12_gets ⟨by dsimp only; omega, by dsimp only; omega⟩) md_at0 rfl rfl hl.1 rfl (Nat.le_of_ble_eq_true rfl) dX12_row_69 ⟨Nat.le_refl _, Nat.le_refl _⟩ (fun u H locs hp hw => ?_)
            obtain rfl := hp
            refine lv_goto (tgt := 43) cx.1 cx.2.1 dX12_row_72 (by decide) ?_
            exact ih p10.2 l2 q _ _ _ h hw (lv_sub hl [0, 1] rfl) K
    obtain ⟨q11, e_q11, h⟩ := md_ob h
    refine L43 n p5.2 (p4.1) q11 _ _ _ e_q11 hw (lv_sub hl [2, 0] rfl) (fun H locs ls hw hl => ?_)
    refine lv_aload_n cx.1 cx.2.1 dX12_row_75 rfl (lv_at hl 0 rfl) ?_
    refine lv_bipush (v := 125) cx.1 cx.2.1 dX12_row_76 (by decide) ?_
    obtain ⟨p12, e_p12, h⟩ := md_ob h
    refine hp_callVv (As := [.int 125]) (rest := []) cx hw (km_X12_sign l D cA E _ ad hj hE n q11 (125 : Int32) p12 e_p12) (cwV 1 cx.2.2.2.2.2.1 (md_giV mm_161 mm_162 mm_163 mm_5 mm_164) rfl rfl rfl hd_X12_sign ⟨by dsimp only; omega, by dsimp only; omega⟩) md_at0 rfl rfl hl.1 rfl (Nat.le_of_ble_eq_true rfl) dX12_row_78 ⟨Nat.le_refl _, Nat.le_refl _⟩ (fun u H locs hp hw => ?_)
    obtain rfl := hp
    refine lv_iload_n cx.1 cx.2.1 dX12_row_81 rfl (lv_at hl 1 rfl) ?_
    exact hp_iret cx hw (md_ret h) dX12_row_82
  · have h := md_ip c17 h
    refine lv_aload_n cx.1 cx.2.1 dX12_row_20 rfl (lv_at hl 1 rfl) ?_
    refine lv_bipush (v := 125) cx.1 cx.2.1 dX12_row_21 (by decide) ?_
    obtain ⟨p13, e_p13, h⟩ := md_ob h
    refine hp_callVv (As := [.int 125]) (rest := []) cx hw (km_X12_sign l D cA E _ ad hj hE n p3.2 (125 : Int32) p13 e_p13) (cwV 1 cx.2.2.2.2.2.1 (md_giV mm_161 mm_162 mm_163 mm_5 mm_164) rfl rfl rfl hd_X12_sign ⟨by dsimp only; omega, by dsimp only; omega⟩) md_at0 rfl rfl hl.1 rfl (Nat.le_of_ble_eq_true rfl) dX12_row_23 ⟨Nat.le_refl _, Nat.le_refl _⟩ (fun u H locs hp hw => ?_)
    obtain rfl := hp
    refine lv_iload_n cx.1 cx.2.1 dX12_row_26 rfl (lv_at hl 0 rfl) ?_
    exact hp_iret cx hw (md_ret h) dX12_row_27
set_option maxHeartbeats 4000000 in
set_option maxRecDepth 100000 in
theorem km_X12_fun (l : Launch) (D : va_G) (cA : Nat → ClassId) (E : hp_N) (sz : Nat) (ad : Nat → Nat) (hj : md_inj ad) (hE : md_E E) (n d : Nat) (rec : md_R) (ih19 : ∀ (sz : Nat) (σ : md_S) (p : Int32 × md_S), rec 19 0 0 0 σ = some p → Met l yX12_row (Cond.code yX12_row cX12_row 3 (some .int) :: v_MOD) ({ frames := d + 10, cells := 0, slots := 0, locals := 25 * d + 244 }) (hp_Pc D vwCl (hp_Tl cA) E sz (md_pic cA ad σ) [.ref (ad 137)]) (hp_Qi D vwCl (hp_Tl cA) sz (md_pic cA ad σ) (fun r u => r = p.1 ∧ u = md_pic cA ad p.2)) 0 0 (hp_A (md_pic cA ad σ) sz)) (σ0 : md_S) (p : (Int32 × md_S)) (h : f_X12_fun n rec σ0 = some p) : Met l yX12_fun (Cond.code yX12_fun cX12_fun 6 (some .int) :: v_MOD) ({ frames := (d + 1) + 10, cells := 0, slots := 0, locals := 25 * ((d + 1)) + 244 }) (hp_Pc D vwCl (hp_Tl cA) E sz (md_pic cA ad σ0) [.ref (ad 137)]) (hp_Qi D vwCl (hp_Tl cA) sz (md_pic cA ad σ0) (fun r u => r = p.1 ∧ u = md_pic cA ad p.2)) 0 0 (hp_A (md_pic cA ad σ0) sz) := by
  refine hp_ofW (cc := cX12_fun) (maxL := 6) (ret := (some .int)) (by decide) rfl (Nat.le_of_ble_eq_true rfl) ?_
  intro pp ee ss mm bb mt cd ls cx hsz hw hl
  have hl : lv_has ls 6 [(0, .ref (ad 137))] := hl
  have J78 : ∀ (σ : md_S) (l1 : Int32) (l2 : Int32) (l3 : Int32) (H : Heap) (locs : List Loc) (ls : Array Slot), f_X12_fun_J78 n rec σ l1 l2 l3 = some p → hp_w D vwCl (hp_Tl cA) E (hp_A (md_pic cA ad σ0) sz) ss H locs (md_pic cA ad σ) → lv_has ls 6 [(0, .ref (ad 137)), (1, .int l1), (2, .int l2), (3, .int l3)] → W pp l ee ({ frames := (d + 1) + 10, cells := 0, slots := 0, locals := 25 * ((d + 1)) + 244 }) ss mm [.ref (ad 137)].toArray bb mt cd H locs 0 0 (MQ bb (hp_Qi D vwCl (hp_Tl cA) sz (md_pic cA ad σ0) (fun r u => r = p.1 ∧ u = md_pic cA ad p.2)) [.ref (ad 137)].toArray ss 0 0 (hp_A (md_pic cA ad σ0) sz)) (F0 mm 78 ls []) := by
    intro σ l1 l2 l3 H locs ls h hw hl
    refine lv_aload_n cx.1 cx.2.1 dX12_fun_78 rfl (lv_at hl 0 rfl) ?_
    obtain ⟨p1, e_p1, h⟩ := md_ob h
    refine hp_callVi (As := []) (rest := []) cx hw (km_X12_isFine l D cA E _ ad hj hE n σ  p1 e_p1) (cwV 0 cx.2.2.2.2.2.1 (md_giV mm_64 mm_65 mm_66 mm_5 mm_67) rfl rfl rfl hd_X12_isFine ⟨by dsimp only; omega, by dsimp only; omega⟩) md_at0 rfl rfl hl.1 rfl (Nat.le_of_ble_eq_true rfl) dX12_fun_79 ⟨Nat.le_refl _, Nat.le_refl _⟩ (fun r u H locs hp hw => ?_)
    obtain ⟨rfl, rfl⟩ := hp
    refine lv_if_ne (tgt := 87) cx.1 cx.2.1 dX12_fun_82 (by decide) (fun c82 => ?_) (fun c82 => ?_)
    · have h := md_in c82 h
      refine lv_aload_n cx.1 cx.2.1 dX12_fun_87 rfl (lv_at hl 0 rfl) ?_
      refine md_gI (k := 64) cx hw hin12c rfl (by decide) (List.mem_cons_of_mem _ mm_130) dX12_fun_88 ?_
      refine lv_istore (lv' := [(4, .int (mI p1.2 64)), (0, .ref (ad 137)), (1, .int l1), (2, .int l2), (3, .int l3)]) cx.1 cx.2.1 dX12_fun_91 hl (by decide) rfl (fun ls hl => ?_)
      refine lv_aload_n cx.1 cx.2.1 dX12_fun_93 rfl (lv_at hl 1 rfl) ?_
      refine lv_iload_n cx.1 cx.2.1 dX12_fun_94 rfl (lv_at hl 2 rfl) ?_
      obtain ⟨σ2, e_σ2, h⟩ := md_ob h
      refine md_pI (k := 64) cx hw hin12c rfl (by decide) rfl (List.mem_cons_of_mem _ mm_130) rfl e_σ2 dX12_fun_95 (fun H locs hw => ?_)
      refine lv_aload_n cx.1 cx.2.1 dX12_fun_98 rfl (lv_at hl 1 rfl) ?_
      obtain ⟨p3, e_p3, h⟩ := md_ob h
      refine hp_callVi (As := []) (rest := []) cx hw (ih19 _ σ2  p3 e_p3) (cwV 0 cx.2.2.2.2.2.1 (md_giV mm_257 mm_258 mm_259 mm_5 mm_260) rfl rfl rfl hd_X12_row ⟨by dsimp only; omega, by dsimp only; omega⟩) md_at0 rfl rfl hl.1 rfl (Nat.le_of_ble_eq_true rfl) dX12_fun_99 ⟨Nat.le_refl _, Nat.le_refl _⟩ (fun r u H locs hp hw => ?_)
      obtain ⟨rfl, rfl⟩ := hp
      refine lv_istore (lv' := [(5, .int p3.1), (4, .int (mI p1.2 64)), (0, .ref (ad 137)), (1, .int l1), (2, .int l2), (3, .int l3)]) cx.1 cx.2.1 dX12_fun_102 hl (by decide) rfl (fun ls hl => ?_)
      refine lv_aload_n cx.1 cx.2.1 dX12_fun_104 rfl (lv_at hl 2 rfl) ?_
      refine md_gR (k := 41) cx hw hin12c (by decide) (by decide) (List.mem_cons_of_mem _ mm_261) dX12_fun_105 ?_
      refine lv_iload_n cx.1 cx.2.1 dX12_fun_108 rfl (lv_at hl 3 rfl) ?_
      refine lv_iload cx.1 cx.2.1 dX12_fun_109 (lv_at hl 0 rfl) ?_
      obtain ⟨σ4, e_σ4, h⟩ := md_ob h
      refine md_sI (k := 41) hj cx hw (by decide) rfl rfl rfl e_σ4 dX12_fun_111 (fun H locs hw => ?_)
      refine lv_aload_n cx.1 cx.2.1 dX12_fun_112 rfl (lv_at hl 2 rfl) ?_
      refine lv_iload cx.1 cx.2.1 dX12_fun_113 (lv_at hl 1 rfl) ?_
      obtain ⟨σ5, e_σ5, h⟩ := md_ob h
      refine md_pI (k := 64) cx hw hin12c rfl (by decide) rfl (List.mem_cons_of_mem _ mm_130) rfl e_σ5 dX12_fun_115 (fun H locs hw => ?_)
      refine lv_aload_n cx.1 cx.2.1 dX12_fun_118 rfl (lv_at hl 2 rfl) ?_
      refine lv_iload_n cx.1 cx.2.1 dX12_fun_119 rfl (lv_at hl 5 rfl) ?_
      obtain ⟨σ6, e_σ6, h⟩ := md_ob h
      refine md_pI (k := 56) cx hw hin12c rfl (by decide) rfl (List.mem_cons_of_mem _ mm_208) rfl e_σ6 dX12_fun_120 (fun H locs hw => ?_)
      refine lv_iload_n cx.1 cx.2.1 dX12_fun_123 rfl (lv_at hl 4 rfl) ?_
      exact hp_iret cx hw (md_ret h) dX12_fun_124
    · have h := md_ip c82 h
      refine lv_iload_n cx.1 cx.2.1 dX12_fun_85 rfl (lv_at hl 2 rfl) ?_
      exact hp_iret cx hw (md_ret h) dX12_fun_86
  refine lv_aload_n cx.1 cx.2.1 dX12_fun_0 rfl (lv_at hl 0 rfl) ?_
  obtain ⟨p7, e_p7, h⟩ := md_ob h
  refine hp_callVi (As := []) (rest := []) cx hw (km_X12_countsPart l D cA E _ ad hj hE n σ0  p7 e_p7) (cwV 0 cx.2.2.2.2.2.1 (md_giV mm_187 mm_188 mm_189 mm_5 mm_190) rfl rfl rfl hd_X12_countsPart ⟨by dsimp only; omega, by dsimp only; omega⟩) md_at0 rfl rfl hl.1 rfl (Nat.le_of_ble_eq_true rfl) dX12_fun_1 ⟨Nat.le_refl _, Nat.le_refl _⟩ (fun r u H locs hp hw => ?_)
  obtain ⟨rfl, rfl⟩ := hp
  refine lv_if_ne (tgt := 9) cx.1 cx.2.1 dX12_fun_4 (by decide) (fun c4 => ?_) (fun c4 => ?_)
  · have h := md_in c4 h
    refine lv_aload_n cx.1 cx.2.1 dX12_fun_9 rfl (lv_at hl 0 rfl) ?_
    refine lv_iconst (v := 1) cx.1 cx.2.1 dX12_fun_10 (by decide) ?_
    refine lv_aload_n cx.1 cx.2.1 dX12_fun_11 rfl (lv_at hl 0 rfl) ?_
    refine md_gR (k := 37) cx hw hin12c (by decide) (by decide) (List.mem_cons_of_mem _ mm_243) dX12_fun_12 ?_
    refine lv_aload_n cx.1 cx.2.1 dX12_fun_15 rfl (lv_at hl 0 rfl) ?_
    refine md_gI (k := 64) cx hw hin12c rfl (by decide) (List.mem_cons_of_mem _ mm_130) dX12_fun_16 ?_
    obtain ⟨v8, e_v8, h⟩ := md_ob h
    refine md_lI (k := 37) hj cx hw (by decide) rfl rfl rfl e_v8 dX12_fun_19 ?_
    refine lv_aload_n cx.1 cx.2.1 dX12_fun_20 rfl (lv_at hl 0 rfl) ?_
    refine md_gI (k := 64) cx hw hin12c rfl (by decide) (List.mem_cons_of_mem _ mm_130) dX12_fun_21 ?_
    obtain ⟨p9, e_p9, h⟩ := md_ob h
    refine hp_callVi (As := [.int 1, .int v8, .int (mI p7.2 64)]) (rest := []) cx hw (km_X12_newUnit l D cA E _ ad hj hE n p7.2 (1 : Int32) v8 ((mI p7.2 64)) p9 e_p9) (cwV 3 cx.2.2.2.2.2.1 (md_giV mm_249 mm_250 mm_251 mm_5 mm_252) rfl rfl rfl hd_X12_newUnit ⟨by dsimp only; omega, by dsimp only; omega⟩) md_at0 rfl rfl hl.1 rfl (Nat.le_of_ble_eq_true rfl) dX12_fun_24 ⟨Nat.le_refl _, Nat.le_refl _⟩ (fun r u H locs hp hw => ?_)
    obtain ⟨rfl, rfl⟩ := hp
    refine lv_istore_n (lv' := [(1, .int p9.1), (0, .ref (ad 137))]) cx.1 cx.2.1 dX12_fun_27 rfl hl (by decide) rfl (fun ls hl => ?_)
    refine lv_aload_n cx.1 cx.2.1 dX12_fun_28 rfl (lv_at hl 1 rfl) ?_
    refine lv_bipush (v := 9) cx.1 cx.2.1 dX12_fun_29 (by decide) ?_
    refine lv_iload_n cx.1 cx.2.1 dX12_fun_31 rfl (lv_at hl 0 rfl) ?_
    refine lv_iconst (v := 0) cx.1 cx.2.1 dX12_fun_32 (by decide) ?_
    obtain ⟨p10, e_p10, h⟩ := md_ob h
    refine hp_callVi (As := [.int 9, .int p9.1, .int 0]) (rest := []) cx hw (km_X12_node l D cA E _ ad hj hE n p9.2 (9 : Int32) (p9.1) (0 : Int32) p10 e_p10) (cwV 3 cx.2.2.2.2.2.1 (md_giV mm_191 mm_192 mm_193 mm_5 mm_194) rfl rfl rfl hd_X12_node ⟨by dsimp only; omega, by dsimp only; omega⟩) md_at0 rfl rfl hl.1 rfl (Nat.le_of_ble_eq_true rfl) dX12_fun_33 ⟨Nat.le_refl _, Nat.le_refl _⟩ (fun r u H locs hp hw => ?_)
    obtain ⟨rfl, rfl⟩ := hp
    refine lv_istore_n (lv' := [(2, .int p10.1), (1, .int p9.1), (0, .ref (ad 137))]) cx.1 cx.2.1 dX12_fun_36 rfl hl (by decide) rfl (fun ls hl => ?_)
    refine lv_aload_n cx.1 cx.2.1 dX12_fun_37 rfl (lv_at hl 2 rfl) ?_
    obtain ⟨p11, e_p11, h⟩ := md_ob h
    refine hp_callVv (As := []) (rest := []) cx hw (km_X12_next l D cA E _ ad hj hE n p10.2  p11 e_p11) (cwV 0 cx.2.2.2.2.2.1 (md_giV mm_92 mm_93 mm_94 mm_5 mm_95) rfl rfl rfl hd_X12_next ⟨by dsimp only; omega, by dsimp only; omega⟩) md_at0 rfl rfl hl.1 rfl (Nat.le_of_ble_eq_true rfl) dX12_fun_38 ⟨Nat.le_refl _, Nat.le_refl _⟩ (fun u H locs hp hw => ?_)
    obtain rfl := hp
    refine lv_aload_n cx.1 cx.2.1 dX12_fun_41 rfl (lv_at hl 2 rfl) ?_
    refine md_gI (k := 56) cx hw hin12c rfl (by decide) (List.mem_cons_of_mem _ mm_208) dX12_fun_42 ?_
    refine lv_istore_n (lv' := [(3, .int (mI p11.2 56)), (2, .int p10.1), (1, .int p9.1), (0, .ref (ad 137))]) cx.1 cx.2.1 dX12_fun_45 rfl hl (by decide) rfl (fun ls hl => ?_)
    refine lv_aload_n cx.1 cx.2.1 dX12_fun_46 rfl (lv_at hl 3 rfl) ?_
    refine lv_iload_n cx.1 cx.2.1 dX12_fun_47 rfl (lv_at hl 2 rfl) ?_
    refine lv_iconst (v := 0) cx.1 cx.2.1 dX12_fun_48 (by decide) ?_
    obtain ⟨p12, e_p12, h⟩ := md_ob h
    refine hp_callVv (As := [.int p9.1, .int 0]) (rest := []) cx hw (km_X12_parameters l D cA E _ ad hj hE n p11.2 (p9.1) (0 : Int32) p12 e_p12) (cwV 2 cx.2.2.2.2.2.1 (md_giV mm_253 mm_254 mm_255 mm_5 mm_256) rfl rfl rfl hd_X12_parameters ⟨by dsimp only; omega, by dsimp only; omega⟩) md_at0 rfl rfl hl.1 rfl (Nat.le_of_ble_eq_true rfl) dX12_fun_49 ⟨Nat.le_refl _, Nat.le_refl _⟩ (fun u H locs hp hw => ?_)
    obtain rfl := hp
    refine lv_aload_n cx.1 cx.2.1 dX12_fun_52 rfl (lv_at hl 3 rfl) ?_
    refine lv_bipush (v := 41) cx.1 cx.2.1 dX12_fun_53 (by decide) ?_
    obtain ⟨p13, e_p13, h⟩ := md_ob h
    refine hp_callVv (As := [.int 41]) (rest := []) cx hw (km_X12_sign l D cA E _ ad hj hE n p12.2 (41 : Int32) p13 e_p13) (cwV 1 cx.2.2.2.2.2.1 (md_giV mm_161 mm_162 mm_163 mm_5 mm_164) rfl rfl rfl hd_X12_sign ⟨by dsimp only; omega, by dsimp only; omega⟩) md_at0 rfl rfl hl.1 rfl (Nat.le_of_ble_eq_true rfl) dX12_fun_55 ⟨Nat.le_refl _, Nat.le_refl _⟩ (fun u H locs hp hw => ?_)
    obtain rfl := hp
    refine lv_aload_n cx.1 cx.2.1 dX12_fun_58 rfl (lv_at hl 3 rfl) ?_
    obtain ⟨p14, e_p14, h⟩ := md_ob h
    refine hp_callVi (As := []) (rest := []) cx hw (km_X12_isFine l D cA E _ ad hj hE n p13.2  p14 e_p14) (cwV 0 cx.2.2.2.2.2.1 (md_giV mm_64 mm_65 mm_66 mm_5 mm_67) rfl rfl rfl hd_X12_isFine ⟨by dsimp only; omega, by dsimp only; omega⟩) md_at0 rfl rfl hl.1 rfl (Nat.le_of_ble_eq_true rfl) dX12_fun_59 ⟨Nat.le_refl _, Nat.le_refl _⟩ (fun r u H locs hp hw => ?_)
    obtain ⟨rfl, rfl⟩ := hp
    refine lv_if_eq (tgt := 78) cx.1 cx.2.1 dX12_fun_62 (by decide) (fun c62 => ?_) (fun c62 => ?_)
    · have h := md_ip c62 h
      exact J78 p14.2 (p9.1) (p10.1) ((mI p11.2 56)) _ _ _ h hw (lv_sub hl [3, 2, 1, 0] rfl)
    · have h := md_in c62 h
      refine lv_aload_n cx.1 cx.2.1 dX12_fun_65 rfl (lv_at hl 3 rfl) ?_
      refine lv_bipush (v := 123) cx.1 cx.2.1 dX12_fun_66 (by decide) ?_
      obtain ⟨p15, e_p15, h⟩ := md_ob h
      refine hp_callVi (As := [.int 123]) (rest := []) cx hw (km_X12_isSign l D cA E _ ad hj hE n p14.2 (123 : Int32) p15 e_p15) (cwV 1 cx.2.2.2.2.2.1 (md_giV mm_84 mm_85 mm_86 mm_5 mm_87) rfl rfl rfl hd_X12_isSign ⟨by dsimp only; omega, by dsimp only; omega⟩) md_at0 rfl rfl hl.1 rfl (Nat.le_of_ble_eq_true rfl) dX12_fun_68 ⟨Nat.le_refl _, Nat.le_refl _⟩ (fun r u H locs hp hw => ?_)
      obtain ⟨rfl, rfl⟩ := hp
      refine lv_if_ne (tgt := 78) cx.1 cx.2.1 dX12_fun_71 (by decide) (fun c71 => ?_) (fun c71 => ?_)
      · have h := md_in c71 h
        exact J78 p15.2 (p9.1) (p10.1) ((mI p11.2 56)) _ _ _ h hw (lv_sub hl [3, 2, 1, 0] rfl)
      · have h := md_ip c71 h
        refine lv_aload_n cx.1 cx.2.1 dX12_fun_74 rfl (lv_at hl 3 rfl) ?_
        obtain ⟨p16, e_p16, h⟩ := md_ob h
        refine hp_callVv (As := []) (rest := []) cx hw (km_X12_misfit l D cA E _ ad hj hE n p15.2  p16 e_p16) (cwV 0 cx.2.2.2.2.2.1 (md_giV mm_88 mm_89 mm_90 mm_5 mm_91) rfl rfl rfl hd_X12_misfit ⟨by dsimp only; omega, by dsimp only; omega⟩) md_at0 rfl rfl hl.1 rfl (Nat.le_of_ble_eq_true rfl) dX12_fun_75 ⟨Nat.le_refl _, Nat.le_refl _⟩ (fun u H locs hp hw => ?_)
        obtain rfl := hp
        exact J78 p16.2 (p9.1) (p10.1) ((mI p11.2 56)) _ _ _ h hw (lv_sub hl [3, 2, 1, 0] rfl)
  · have h := md_ip c4 h
    refine lv_iconst (v := 0) cx.1 cx.2.1 dX12_fun_7 (by decide) ?_
    exact hp_iret cx hw (md_ret h) dX12_fun_8
set_option maxHeartbeats 4000000 in
set_option maxRecDepth 100000 in
theorem km_X12_newAtom (l : Launch) (D : va_G) (cA : Nat → ClassId) (E : hp_N) (sz : Nat) (ad : Nat → Nat) (hj : md_inj ad) (hE : md_E E) (n : Nat) (σ0 : md_S) (p : (Int32 × md_S)) (h : f_X12_newAtom n σ0 = some p) : Met l yX12_newAtom (Cond.code yX12_newAtom cX12_newAtom 3 (some .int) :: v_MOD) ({ frames := 8, cells := 0, slots := 0, locals := 198 }) (hp_Pc D vwCl (hp_Tl cA) E sz (md_pic cA ad σ0) [.ref (ad 137)]) (hp_Qi D vwCl (hp_Tl cA) sz (md_pic cA ad σ0) (fun r u => r = p.1 ∧ u = md_pic cA ad p.2)) 0 0 (hp_A (md_pic cA ad σ0) sz) := by
  refine hp_ofW (cc := cX12_newAtom) (maxL := 3) (ret := (some .int)) (by decide) rfl (Nat.le_of_ble_eq_true rfl) ?_
  intro pp ee ss mm bb mt cd ls cx hsz hw hl
  have hl : lv_has ls 3 [(0, .ref (ad 137))] := hl
  refine lv_aload_n cx.1 cx.2.1 dX12_newAtom_0 rfl (lv_at hl 0 rfl) ?_
  obtain ⟨p1, e_p1, h⟩ := md_ob h
  refine hp_callVi (As := []) (rest := []) cx hw (km_X12_countsPart l D cA E _ ad hj hE n σ0  p1 e_p1) (cwV 0 cx.2.2.2.2.2.1 (md_giV mm_187 mm_188 mm_189 mm_5 mm_190) rfl rfl rfl hd_X12_countsPart ⟨Nat.le_of_ble_eq_true rfl, Nat.le_of_ble_eq_true rfl⟩) md_at0 rfl rfl hl.1 rfl (Nat.le_of_ble_eq_true rfl) dX12_newAtom_1 ⟨Nat.le_refl _, Nat.le_refl _⟩ (fun r u H locs hp hw => ?_)
  obtain ⟨rfl, rfl⟩ := hp
  refine lv_if_ne (tgt := 9) cx.1 cx.2.1 dX12_newAtom_4 (by decide) (fun c4 => ?_) (fun c4 => ?_)
  · have h := md_in c4 h
    refine lv_aload_n cx.1 cx.2.1 dX12_newAtom_9 rfl (lv_at hl 0 rfl) ?_
    obtain ⟨p2, e_p2, h⟩ := md_ob h
    refine hp_callVv (As := []) (rest := []) cx hw (km_X12_next l D cA E _ ad hj hE n p1.2  p2 e_p2) (cwV 0 cx.2.2.2.2.2.1 (md_giV mm_92 mm_93 mm_94 mm_5 mm_95) rfl rfl rfl hd_X12_next ⟨Nat.le_of_ble_eq_true rfl, Nat.le_of_ble_eq_true rfl⟩) md_at0 rfl rfl hl.1 rfl (Nat.le_of_ble_eq_true rfl) dX12_newAtom_10 ⟨Nat.le_refl _, Nat.le_refl _⟩ (fun u H locs hp hw => ?_)
    obtain rfl := hp
    refine lv_aload_n cx.1 cx.2.1 dX12_newAtom_13 rfl (lv_at hl 0 rfl) ?_
    obtain ⟨p3, e_p3, h⟩ := md_ob h
    refine hp_callVi (As := []) (rest := []) cx hw (km_X12_isName l D cA E _ ad hj hE n p2.2  p3 e_p3) (cwV 0 cx.2.2.2.2.2.1 (md_giV mm_107 mm_108 mm_109 mm_5 mm_110) rfl rfl rfl hd_X12_isName ⟨Nat.le_of_ble_eq_true rfl, Nat.le_of_ble_eq_true rfl⟩) md_at0 rfl rfl hl.1 rfl (Nat.le_of_ble_eq_true rfl) dX12_newAtom_14 ⟨Nat.le_refl _, Nat.le_refl _⟩ (fun r u H locs hp hw => ?_)
    obtain ⟨rfl, rfl⟩ := hp
    refine lv_if_ne (tgt := 22) cx.1 cx.2.1 dX12_newAtom_17 (by decide) (fun c17 => ?_) (fun c17 => ?_)
    · have h := md_in c17 h
      refine lv_aload_n cx.1 cx.2.1 dX12_newAtom_22 rfl (lv_at hl 0 rfl) ?_
      refine lv_aload_n cx.1 cx.2.1 dX12_newAtom_23 rfl (lv_at hl 0 rfl) ?_
      refine md_gJ (k := 12) cx hw hin12c rfl (by decide) (List.mem_cons_of_mem _ mm_41) dX12_newAtom_24 ?_
      obtain ⟨p4, e_p4, h⟩ := md_ob h
      refine hp_callVi (As := [.long (mJ p3.2 12)]) (rest := []) cx hw (km_X12_moduleOf l D cA E _ ad hj hE n p3.2 ((mJ p3.2 12)) p4 e_p4) (cwV 1 cx.2.2.2.2.2.1 (md_giV mm_262 mm_263 mm_264 mm_5 mm_265) rfl rfl rfl hd_X12_moduleOf ⟨Nat.le_of_ble_eq_true rfl, Nat.le_of_ble_eq_true rfl⟩) md_at0 rfl rfl hl.1 rfl (Nat.le_of_ble_eq_true rfl) dX12_newAtom_27 ⟨Nat.le_refl _, Nat.le_refl _⟩ (fun r u H locs hp hw => ?_)
      obtain ⟨rfl, rfl⟩ := hp
      refine lv_istore_n (lv' := [(1, .int p4.1), (0, .ref (ad 137))]) cx.1 cx.2.1 dX12_newAtom_30 rfl hl (by decide) rfl (fun ls hl => ?_)
      refine lv_iload_n cx.1 cx.2.1 dX12_newAtom_31 rfl (lv_at hl 0 rfl) ?_
      refine lv_iconst (v := (-1)) cx.1 cx.2.1 dX12_newAtom_32 (by decide) ?_
      refine lv_icmp_ne (tgt := 43) cx.1 cx.2.1 dX12_newAtom_33 (by decide) (fun c33 => ?_) (fun c33 => ?_)
      · have h := md_in c33 h
        refine lv_aload_n cx.1 cx.2.1 dX12_newAtom_43 rfl (lv_at hl 1 rfl) ?_
        refine lv_iconst (v := 4) cx.1 cx.2.1 dX12_newAtom_44 (by decide) ?_
        refine lv_iload_n cx.1 cx.2.1 dX12_newAtom_45 rfl (lv_at hl 0 rfl) ?_
        refine lv_iconst (v := 0) cx.1 cx.2.1 dX12_newAtom_46 (by decide) ?_
        obtain ⟨p5, e_p5, h⟩ := md_ob h
        refine hp_callVi (As := [.int 4, .int p4.1, .int 0]) (rest := []) cx hw (km_X12_node l D cA E _ ad hj hE n p4.2 (4 : Int32) (p4.1) (0 : Int32) p5 e_p5) (cwV 3 cx.2.2.2.2.2.1 (md_giV mm_191 mm_192 mm_193 mm_5 mm_194) rfl rfl rfl hd_X12_node ⟨Nat.le_of_ble_eq_true rfl, Nat.le_of_ble_eq_true rfl⟩) md_at0 rfl rfl hl.1 rfl (Nat.le_of_ble_eq_true rfl) dX12_newAtom_47 ⟨Nat.le_refl _, Nat.le_refl _⟩ (fun r u H locs hp hw => ?_)
        obtain ⟨rfl, rfl⟩ := hp
        refine lv_istore_n (lv' := [(2, .int p5.1), (1, .int p4.1), (0, .ref (ad 137))]) cx.1 cx.2.1 dX12_newAtom_50 rfl hl (by decide) rfl (fun ls hl => ?_)
        refine lv_aload_n cx.1 cx.2.1 dX12_newAtom_51 rfl (lv_at hl 2 rfl) ?_
        obtain ⟨p6, e_p6, h⟩ := md_ob h
        refine hp_callVv (As := []) (rest := []) cx hw (km_X12_next l D cA E _ ad hj hE n p5.2  p6 e_p6) (cwV 0 cx.2.2.2.2.2.1 (md_giV mm_92 mm_93 mm_94 mm_5 mm_95) rfl rfl rfl hd_X12_next ⟨Nat.le_of_ble_eq_true rfl, Nat.le_of_ble_eq_true rfl⟩) md_at0 rfl rfl hl.1 rfl (Nat.le_of_ble_eq_true rfl) dX12_newAtom_52 ⟨Nat.le_refl _, Nat.le_refl _⟩ (fun u H locs hp hw => ?_)
        obtain rfl := hp
        refine lv_iload_n cx.1 cx.2.1 dX12_newAtom_55 rfl (lv_at hl 0 rfl) ?_
        exact hp_iret cx hw (md_ret h) dX12_newAtom_56
      · have h := md_ip c33 h
        refine lv_aload_n cx.1 cx.2.1 dX12_newAtom_36 rfl (lv_at hl 1 rfl) ?_
        refine lv_iconst (v := 3) cx.1 cx.2.1 dX12_newAtom_37 (by decide) ?_
        obtain ⟨p7, e_p7, h⟩ := md_ob h
        refine hp_callVv (As := [.int 3]) (rest := []) cx hw (km_X12_fails l D cA E _ ad hj hE n p4.2 (3 : Int32) p7 e_p7) (cwV 1 cx.2.2.2.2.2.1 (md_giV mm_54 mm_55 mm_56 mm_5 mm_57) rfl rfl rfl hd_X12_fails ⟨Nat.le_of_ble_eq_true rfl, Nat.le_of_ble_eq_true rfl⟩) md_at0 rfl rfl hl.1 rfl (Nat.le_of_ble_eq_true rfl) dX12_newAtom_38 ⟨Nat.le_refl _, Nat.le_refl _⟩ (fun u H locs hp hw => ?_)
        obtain rfl := hp
        refine lv_iconst (v := 0) cx.1 cx.2.1 dX12_newAtom_41 (by decide) ?_
        exact hp_iret cx hw (md_ret h) dX12_newAtom_42
    · have h := md_ip c17 h
      refine lv_iconst (v := 0) cx.1 cx.2.1 dX12_newAtom_20 (by decide) ?_
      exact hp_iret cx hw (md_ret h) dX12_newAtom_21
  · have h := md_ip c4 h
    refine lv_iconst (v := 0) cx.1 cx.2.1 dX12_newAtom_7 (by decide) ?_
    exact hp_iret cx hw (md_ret h) dX12_newAtom_8
set_option maxHeartbeats 4000000 in
set_option maxRecDepth 100000 in
theorem km_X12_captures (l : Launch) (D : va_G) (cA : Nat → ClassId) (E : hp_N) (sz : Nat) (ad : Nat → Nat) (hj : md_inj ad) (hE : md_E E) (n : Nat) (σ0 : md_S) (a1 : Int32) (p : (Int32 × md_S)) (h : f_X12_captures n σ0 a1 = some p) : Met l yX12_captures (Cond.code yX12_captures cX12_captures 5 none :: v_MOD) ({ frames := 0, cells := 0, slots := 0, locals := 0 }) (hp_Pc D vwCl (hp_Tl cA) E sz (md_pic cA ad σ0) [.ref (ad 137), .int a1]) (hp_Qv D vwCl (hp_Tl cA) sz (md_pic cA ad σ0) (fun u => u = md_pic cA ad p.2)) 0 0 (hp_A (md_pic cA ad σ0) sz) := by
  refine hp_ofW (cc := cX12_captures) (maxL := 5) (ret := none) (by decide) rfl (Nat.le_of_ble_eq_true rfl) ?_
  intro pp ee ss mm bb mt cd ls cx hsz hw hl
  have hl : lv_has ls 5 [(0, .ref (ad 137)), (1, .int a1)] := hl
  refine lv_aload_n cx.1 cx.2.1 dX12_captures_0 rfl (lv_at hl 0 rfl) ?_
  refine md_gI (k := 64) cx hw hin12c rfl (by decide) (List.mem_cons_of_mem _ mm_130) dX12_captures_1 ?_
  refine lv_istore_n (lv' := [(2, .int (mI σ0 64)), (0, .ref (ad 137)), (1, .int a1)]) cx.1 cx.2.1 dX12_captures_4 rfl hl (by decide) rfl (fun ls hl => ?_)
  have L5 : ∀ (j : Nat) (σ : md_S) (l1 : Int32) (l2 : Int32) (q : (md_S × Int32)) (H : Heap) (locs : List Loc) (ls : Array Slot), f_X12_captures_L5 n l1 j σ l2 = some q → hp_w D vwCl (hp_Tl cA) E (hp_A (md_pic cA ad σ0) sz) ss H locs (md_pic cA ad σ) → lv_has ls 5 [(0, .ref (ad 137)), (1, .int l1), (2, .int l2)] → (∀ (H : Heap) (locs : List Loc) (ls : Array Slot), hp_w D vwCl (hp_Tl cA) E (hp_A (md_pic cA ad σ0) sz) ss H locs (md_pic cA ad q.1) → lv_has ls 5 [] → W pp l ee ({ frames := 0, cells := 0, slots := 0, locals := 0 }) ss mm [.ref (ad 137), .int a1].toArray bb mt cd H locs 0 0 (MQ bb (hp_Qv D vwCl (hp_Tl cA) sz (md_pic cA ad σ0) (fun u => u = md_pic cA ad p.2)) [.ref (ad 137), .int a1].toArray ss 0 0 (hp_A (md_pic cA ad σ0) sz)) (F0 mm 104 ls [])) → W pp l ee ({ frames := 0, cells := 0, slots := 0, locals := 0 }) ss mm [.ref (ad 137), .int a1].toArray bb mt cd H locs 0 0 (MQ bb (hp_Qv D vwCl (hp_Tl cA) sz (md_pic cA ad σ0) (fun u => u = md_pic cA ad p.2)) [.ref (ad 137), .int a1].toArray ss 0 0 (hp_A (md_pic cA ad σ0) sz)) (F0 mm 5 ls []) := by
    intro j
    induction j with
    | zero => intro σ l1 l2 q H locs ls h; exact nomatch h
    | succ j ih =>
      intro σ l1 l2 q H locs ls h hw hl K
      have J94 : ∀ (σ : md_S) (l2 : Int32) (H : Heap) (locs : List Loc) (ls : Array Slot), f_X12_captures_J94 n l1 (f_X12_captures_L5 n l1 j) σ l2 = some q → hp_w D vwCl (hp_Tl cA) E (hp_A (md_pic cA ad σ0) sz) ss H locs (md_pic cA ad σ) → lv_has ls 5 [(0, .ref (ad 137)), (1, .int l1), (2, .int l2)] → W pp l ee ({ frames := 0, cells := 0, slots := 0, locals := 0 }) ss mm [.ref (ad 137), .int a1].toArray bb mt cd H locs 0 0 (MQ bb (hp_Qv D vwCl (hp_Tl cA) sz (md_pic cA ad σ0) (fun u => u = md_pic cA ad p.2)) [.ref (ad 137), .int a1].toArray ss 0 0 (hp_A (md_pic cA ad σ0) sz)) (F0 mm 94 ls []) := by
        intro σ l2 H locs ls h hw hl
        refine lv_aload_n cx.1 cx.2.1 dX12_captures_94 rfl (lv_at hl 0 rfl) ?_
        refine md_gR (k := 40) cx hw hin12c (by decide) (by decide) (List.mem_cons_of_mem _ mm_245) dX12_captures_95 ?_
        refine lv_iload_n cx.1 cx.2.1 dX12_captures_98 rfl (lv_at hl 2 rfl) ?_
        obtain ⟨v1, e_v1, h⟩ := md_ob h
        refine md_lI (k := 40) hj cx hw (by decide) rfl rfl rfl e_v1 dX12_captures_99 ?_
        refine lv_istore_n (lv' := [(2, .int v1), (0, .ref (ad 137)), (1, .int l1)]) cx.1 cx.2.1 dX12_captures_100 rfl hl (by decide) rfl (fun ls hl => ?_)
        refine lv_goto (tgt := 5) cx.1 cx.2.1 dX12_captures_101 (by decide) ?_
        exact ih σ l1 v1 q _ _ _ h hw (lv_sub hl [1, 2, 0] rfl) K
      refine lv_iload_n cx.1 cx.2.1 dX12_captures_5 rfl (lv_at hl 2 rfl) ?_
      refine lv_aload_n cx.1 cx.2.1 dX12_captures_6 rfl (lv_at hl 0 rfl) ?_
      refine md_gR (k := 51) cx hw hin12c (by decide) (by decide) (List.mem_cons_of_mem _ mm_210) dX12_captures_7 ?_
      refine lv_iload_n cx.1 cx.2.1 dX12_captures_10 rfl (lv_at hl 1 rfl) ?_
      obtain ⟨v2, e_v2, h⟩ := md_ob h
      refine md_lI (k := 51) hj cx hw (by decide) rfl rfl rfl e_v2 dX12_captures_11 ?_
      refine lv_icmp_eq (tgt := 104) cx.1 cx.2.1 dX12_captures_12 (by decide) (fun c12 => ?_) (fun c12 => ?_)
      · have h := md_ip c12 h
        obtain rfl := Option.some.inj h
        exact K _ _ _ hw (lv_sub hl [] rfl)
      · have h := md_in c12 h
        refine lv_iconst (v := 0) cx.1 cx.2.1 dX12_captures_15 (by decide) ?_
        refine lv_istore_n (lv' := [(3, .int 0), (0, .ref (ad 137)), (1, .int l1), (2, .int l2)]) cx.1 cx.2.1 dX12_captures_16 rfl hl (by decide) rfl (fun ls hl => ?_)
        refine lv_iconst (v := 0) cx.1 cx.2.1 dX12_captures_17 (by decide) ?_
        refine lv_istore (lv' := [(4, .int 0), (3, .int 0), (0, .ref (ad 137)), (1, .int l1), (2, .int l2)]) cx.1 cx.2.1 dX12_captures_18 hl (by decide) rfl (fun ls hl => ?_)
        have L20 : ∀ (j : Nat) (σ : md_S) (l1 : Int32) (l2 : Int32) (l3 : Int32) (l4 : Int32) (q : (md_S × Int32 × Int32)) (H : Heap) (locs : List Loc) (ls : Array Slot), f_X12_captures_L20 n l1 l2 j σ l3 l4 = some q → hp_w D vwCl (hp_Tl cA) E (hp_A (md_pic cA ad σ0) sz) ss H locs (md_pic cA ad σ) → lv_has ls 5 [(0, .ref (ad 137)), (1, .int l1), (2, .int l2), (3, .int l3), (4, .int l4)] → (∀ (H : Heap) (locs : List Loc) (ls : Array Slot), hp_w D vwCl (hp_Tl cA) E (hp_A (md_pic cA ad σ0) sz) ss H locs (md_pic cA ad q.1) → lv_has ls 5 [(0, .ref (ad 137)), (1, .int l1), (2, .int l2), (3, .int q.2.1)] → W pp l ee ({ frames := 0, cells := 0, slots := 0, locals := 0 }) ss mm [.ref (ad 137), .int a1].toArray bb mt cd H locs 0 0 (MQ bb (hp_Qv D vwCl (hp_Tl cA) sz (md_pic cA ad σ0) (fun u => u = md_pic cA ad p.2)) [.ref (ad 137), .int a1].toArray ss 0 0 (hp_A (md_pic cA ad σ0) sz)) (F0 mm 63 ls [])) → W pp l ee ({ frames := 0, cells := 0, slots := 0, locals := 0 }) ss mm [.ref (ad 137), .int a1].toArray bb mt cd H locs 0 0 (MQ bb (hp_Qv D vwCl (hp_Tl cA) sz (md_pic cA ad σ0) (fun u => u = md_pic cA ad p.2)) [.ref (ad 137), .int a1].toArray ss 0 0 (hp_A (md_pic cA ad σ0) sz)) (F0 mm 20 ls []) := by
          intro j
          induction j with
          | zero => intro σ l1 l2 l3 l4 q H locs ls h; exact nomatch h
          | succ j ih =>
            intro σ l1 l2 l3 l4 q H locs ls h hw hl K
            have J56 : ∀ (σ : md_S) (l4 : Int32) (t0 : Int32) (H : Heap) (locs : List Loc) (ls : Array Slot), f_X12_captures_J56 n l1 l2 (f_X12_captures_L20 n l1 l2 j) σ l4 t0 = some q → hp_w D vwCl (hp_Tl cA) E (hp_A (md_pic cA ad σ0) sz) ss H locs (md_pic cA ad σ) → lv_has ls 5 [(0, .ref (ad 137)), (1, .int l1), (2, .int l2), (4, .int l4)] → W pp l ee ({ frames := 0, cells := 0, slots := 0, locals := 0 }) ss mm [.ref (ad 137), .int a1].toArray bb mt cd H locs 0 0 (MQ bb (hp_Qv D vwCl (hp_Tl cA) sz (md_pic cA ad σ0) (fun u => u = md_pic cA ad p.2)) [.ref (ad 137), .int a1].toArray ss 0 0 (hp_A (md_pic cA ad σ0) sz)) (F0 mm 56 ls [.int t0]) := by
              intro σ l4 t0 H locs ls h hw hl
              refine lv_istore_n (lv' := [(3, .int t0), (0, .ref (ad 137)), (1, .int l1), (2, .int l2), (4, .int l4)]) cx.1 cx.2.1 dX12_captures_56 rfl hl (by decide) rfl (fun ls hl => ?_)
              refine lv_iinc (v := (l4 + 1)) (lv' := [(4, .int (l4 + 1)), (3, .int t0), (0, .ref (ad 137)), (1, .int l1), (2, .int l2)]) cx.1 cx.2.1 dX12_captures_57 hl (k := 4) rfl rfl (by decide) rfl (fun ls hl => ?_)
              refine lv_goto (tgt := 20) cx.1 cx.2.1 dX12_captures_60 (by decide) ?_
              exact ih σ l1 l2 t0 ((l4 + 1)) q _ _ _ h hw (lv_sub hl [2, 3, 4, 1, 0] rfl) K
            have J51 : ∀ (σ : md_S) (l4 : Int32) (H : Heap) (locs : List Loc) (ls : Array Slot), f_X12_captures_J51 n l1 l2 (f_X12_captures_L20 n l1 l2 j) σ l4 = some q → hp_w D vwCl (hp_Tl cA) E (hp_A (md_pic cA ad σ0) sz) ss H locs (md_pic cA ad σ) → lv_has ls 5 [(0, .ref (ad 137)), (1, .int l1), (2, .int l2), (4, .int l4)] → W pp l ee ({ frames := 0, cells := 0, slots := 0, locals := 0 }) ss mm [.ref (ad 137), .int a1].toArray bb mt cd H locs 0 0 (MQ bb (hp_Qv D vwCl (hp_Tl cA) sz (md_pic cA ad σ0) (fun u => u = md_pic cA ad p.2)) [.ref (ad 137), .int a1].toArray ss 0 0 (hp_A (md_pic cA ad σ0) sz)) (F0 mm 51 ls []) := by
              intro σ l4 H locs ls h hw hl
              refine lv_iconst (v := 1) cx.1 cx.2.1 dX12_captures_51 (by decide) ?_
              refine lv_goto (tgt := 56) cx.1 cx.2.1 dX12_captures_52 (by decide) ?_
              exact J56 σ l4 1 _ _ _ h hw (lv_sub hl [0, 1, 2, 3] rfl)
            refine lv_iload cx.1 cx.2.1 dX12_captures_20 (lv_at hl 4 rfl) ?_
            refine lv_aload_n cx.1 cx.2.1 dX12_captures_22 rfl (lv_at hl 0 rfl) ?_
            refine md_gR (k := 44) cx hw hin12c (by decide) (by decide) (List.mem_cons_of_mem _ mm_246) dX12_captures_23 ?_
            refine lv_iload_n cx.1 cx.2.1 dX12_captures_26 rfl (lv_at hl 2 rfl) ?_
            obtain ⟨v3, e_v3, h⟩ := md_ob h
            refine md_lI (k := 44) hj cx hw (by decide) rfl rfl rfl e_v3 dX12_captures_27 ?_
            refine lv_icmp_ge (tgt := 63) cx.1 cx.2.1 dX12_captures_28 (by decide) (fun c28 => ?_) (fun c28 => ?_)
            · have h := md_ip c28 h
              obtain rfl := Option.some.inj h
              exact K _ _ _ hw (lv_sub hl [0, 1, 2, 3] rfl)
            · have h := md_in c28 h
              refine lv_iload_n cx.1 cx.2.1 dX12_captures_31 rfl (lv_at hl 3 rfl) ?_
              refine lv_if_ne (tgt := 51) cx.1 cx.2.1 dX12_captures_32 (by decide) (fun c32 => ?_) (fun c32 => ?_)
              · have h := md_in c32 h
                exact J51 σ l4 _ _ _ h hw (lv_sub hl [0, 1, 2, 4] rfl)
              · have h := md_ip c32 h
                refine lv_aload_n cx.1 cx.2.1 dX12_captures_35 rfl (lv_at hl 0 rfl) ?_
                refine md_gR (k := 45) cx hw hin12c (by decide) (by decide) (List.mem_cons_of_mem _ mm_266) dX12_captures_36 ?_
                refine lv_bipush (v := 16) cx.1 cx.2.1 dX12_captures_39 (by decide) ?_
                refine lv_iload_n cx.1 cx.2.1 dX12_captures_41 rfl (lv_at hl 2 rfl) ?_
                refine lv_imul cx.1 cx.2.1 dX12_captures_42 ?_
                refine lv_iload cx.1 cx.2.1 dX12_captures_43 (lv_at hl 4 rfl) ?_
                refine lv_iadd cx.1 cx.2.1 dX12_captures_45 ?_
                obtain ⟨v4, e_v4, h⟩ := md_ob h
                refine md_lI (k := 45) hj cx hw (by decide) rfl rfl rfl e_v4 dX12_captures_46 ?_
                refine lv_iload_n cx.1 cx.2.1 dX12_captures_47 rfl (lv_at hl 1 rfl) ?_
                refine lv_icmp_ne (tgt := 55) cx.1 cx.2.1 dX12_captures_48 (by decide) (fun c48 => ?_) (fun c48 => ?_)
                · have h := md_in c48 h
                  refine lv_iconst (v := 0) cx.1 cx.2.1 dX12_captures_55 (by decide) ?_
                  exact J56 σ l4 0 _ _ _ h hw (lv_sub hl [0, 1, 2, 4] rfl)
                · have h := md_ip c48 h
                  exact J51 σ l4 _ _ _ h hw (lv_sub hl [0, 1, 2, 4] rfl)
        obtain ⟨q5, e_q5, h⟩ := md_ob h
        refine L20 n σ l1 l2 0 0 q5 _ _ _ e_q5 hw (lv_sub hl [2, 3, 4, 1, 0] rfl) (fun H locs ls hw hl => ?_)
        refine lv_iload_n cx.1 cx.2.1 dX12_captures_63 rfl (lv_at hl 3 rfl) ?_
        refine lv_if_ne (tgt := 94) cx.1 cx.2.1 dX12_captures_64 (by decide) (fun c64 => ?_) (fun c64 => ?_)
        · have h := md_in c64 h
          exact J94 q5.1 l2 _ _ _ h hw (lv_sub hl [0, 1, 2] rfl)
        · have h := md_ip c64 h
          refine lv_aload_n cx.1 cx.2.1 dX12_captures_67 rfl (lv_at hl 0 rfl) ?_
          refine md_gR (k := 45) cx hw hin12c (by decide) (by decide) (List.mem_cons_of_mem _ mm_266) dX12_captures_68 ?_
          refine lv_bipush (v := 16) cx.1 cx.2.1 dX12_captures_71 (by decide) ?_
          refine lv_iload_n cx.1 cx.2.1 dX12_captures_73 rfl (lv_at hl 2 rfl) ?_
          refine lv_imul cx.1 cx.2.1 dX12_captures_74 ?_
          refine lv_aload_n cx.1 cx.2.1 dX12_captures_75 rfl (lv_at hl 0 rfl) ?_
          refine md_gR (k := 44) cx hw hin12c (by decide) (by decide) (List.mem_cons_of_mem _ mm_246) dX12_captures_76 ?_
          refine lv_iload_n cx.1 cx.2.1 dX12_captures_79 rfl (lv_at hl 2 rfl) ?_
          obtain ⟨v6, e_v6, h⟩ := md_ob h
          refine md_lI (k := 44) hj cx hw (by decide) rfl rfl rfl e_v6 dX12_captures_80 ?_
          refine lv_iadd cx.1 cx.2.1 dX12_captures_81 ?_
          refine lv_iload_n cx.1 cx.2.1 dX12_captures_82 rfl (lv_at hl 1 rfl) ?_
          obtain ⟨σ7, e_σ7, h⟩ := md_ob h
          refine md_sI (k := 45) hj cx hw (by decide) rfl rfl rfl e_σ7 dX12_captures_83 (fun H locs hw => ?_)
          refine lv_aload_n cx.1 cx.2.1 dX12_captures_84 rfl (lv_at hl 0 rfl) ?_
          refine md_gR (k := 44) cx hw hin12c (by decide) (by decide) (List.mem_cons_of_mem _ mm_246) dX12_captures_85 ?_
          refine lv_iload_n cx.1 cx.2.1 dX12_captures_88 rfl (lv_at hl 2 rfl) ?_
          refine lv_dup2_11 cx.1 cx.2.1 dX12_captures_89 rfl rfl ?_
          obtain ⟨v8, e_v8, h⟩ := md_ob h
          refine md_lI (k := 44) hj cx hw (by decide) rfl rfl rfl e_v8 dX12_captures_90 ?_
          refine lv_iconst (v := 1) cx.1 cx.2.1 dX12_captures_91 (by decide) ?_
          refine lv_iadd cx.1 cx.2.1 dX12_captures_92 ?_
          obtain ⟨σ9, e_σ9, h⟩ := md_ob h
          refine md_sI (k := 44) hj cx hw (by decide) rfl rfl rfl e_σ9 dX12_captures_93 (fun H locs hw => ?_)
          exact J94 σ9 l2 _ _ _ h hw (lv_sub hl [0, 1, 2] rfl)
  obtain ⟨q10, e_q10, h⟩ := md_ob h
  refine L5 n σ0 a1 ((mI σ0 64)) q10 _ _ _ e_q10 hw (lv_sub hl [1, 2, 0] rfl) (fun H locs ls hw hl => ?_)
  exact hp_vret cx hw (md_retv h) dX12_captures_104
set_option maxHeartbeats 4000000 in
set_option maxRecDepth 100000 in
theorem km_X12_simple (l : Launch) (D : va_G) (cA : Nat → ClassId) (E : hp_N) (sz : Nat) (ad : Nat → Nat) (hj : md_inj ad) (hE : md_E E) (n : Nat) (σ0 : md_S) (a1 : Int32) (a2 : Int32) (a3 : Int32) (p : (Int32 × md_S)) (h : f_X12_simple n σ0 a1 a2 a3 = some p) : Met l yX12_simple (Cond.code yX12_simple cX12_simple 5 (some .int) :: v_MOD) ({ frames := 8, cells := 0, slots := 0, locals := 198 }) (hp_Pc D vwCl (hp_Tl cA) E sz (md_pic cA ad σ0) [.ref (ad 137), .int a1, .int a2, .int a3]) (hp_Qi D vwCl (hp_Tl cA) sz (md_pic cA ad σ0) (fun r u => r = p.1 ∧ u = md_pic cA ad p.2)) 0 0 (hp_A (md_pic cA ad σ0) sz) := by
  refine hp_ofW (cc := cX12_simple) (maxL := 5) (ret := (some .int)) (by decide) rfl (Nat.le_of_ble_eq_true rfl) ?_
  intro pp ee ss mm bb mt cd ls cx hsz hw hl
  have hl : lv_has ls 5 [(0, .ref (ad 137)), (1, .int a1), (2, .int a2), (3, .int a3)] := hl
  refine lv_aload_n cx.1 cx.2.1 dX12_simple_0 rfl (lv_at hl 0 rfl) ?_
  obtain ⟨p1, e_p1, h⟩ := md_ob h
  refine hp_callVi (As := []) (rest := []) cx hw (km_X12_countsPart l D cA E _ ad hj hE n σ0  p1 e_p1) (cwV 0 cx.2.2.2.2.2.1 (md_giV mm_187 mm_188 mm_189 mm_5 mm_190) rfl rfl rfl hd_X12_countsPart ⟨Nat.le_of_ble_eq_true rfl, Nat.le_of_ble_eq_true rfl⟩) md_at0 rfl rfl hl.1 rfl (Nat.le_of_ble_eq_true rfl) dX12_simple_1 ⟨Nat.le_refl _, Nat.le_refl _⟩ (fun r u H locs hp hw => ?_)
  obtain ⟨rfl, rfl⟩ := hp
  refine lv_if_ne (tgt := 9) cx.1 cx.2.1 dX12_simple_4 (by decide) (fun c4 => ?_) (fun c4 => ?_)
  · have h := md_in c4 h
    refine lv_aload_n cx.1 cx.2.1 dX12_simple_9 rfl (lv_at hl 0 rfl) ?_
    refine lv_iload_n cx.1 cx.2.1 dX12_simple_10 rfl (lv_at hl 1 rfl) ?_
    refine lv_iload_n cx.1 cx.2.1 dX12_simple_11 rfl (lv_at hl 2 rfl) ?_
    refine lv_iload_n cx.1 cx.2.1 dX12_simple_12 rfl (lv_at hl 3 rfl) ?_
    obtain ⟨p2, e_p2, h⟩ := md_ob h
    refine hp_callVi (As := [.int a1, .int a2, .int a3]) (rest := []) cx hw (km_X12_node l D cA E _ ad hj hE n p1.2 a1 a2 a3 p2 e_p2) (cwV 3 cx.2.2.2.2.2.1 (md_giV mm_191 mm_192 mm_193 mm_5 mm_194) rfl rfl rfl hd_X12_node ⟨Nat.le_of_ble_eq_true rfl, Nat.le_of_ble_eq_true rfl⟩) md_at0 rfl rfl hl.1 rfl (Nat.le_of_ble_eq_true rfl) dX12_simple_13 ⟨Nat.le_refl _, Nat.le_refl _⟩ (fun r u H locs hp hw => ?_)
    obtain ⟨rfl, rfl⟩ := hp
    refine lv_istore (lv' := [(4, .int p2.1), (0, .ref (ad 137)), (1, .int a1), (2, .int a2), (3, .int a3)]) cx.1 cx.2.1 dX12_simple_16 hl (by decide) rfl (fun ls hl => ?_)
    refine lv_aload_n cx.1 cx.2.1 dX12_simple_18 rfl (lv_at hl 1 rfl) ?_
    obtain ⟨p3, e_p3, h⟩ := md_ob h
    refine hp_callVv (As := []) (rest := []) cx hw (km_X12_next l D cA E _ ad hj hE n p2.2  p3 e_p3) (cwV 0 cx.2.2.2.2.2.1 (md_giV mm_92 mm_93 mm_94 mm_5 mm_95) rfl rfl rfl hd_X12_next ⟨Nat.le_of_ble_eq_true rfl, Nat.le_of_ble_eq_true rfl⟩) md_at0 rfl rfl hl.1 rfl (Nat.le_of_ble_eq_true rfl) dX12_simple_19 ⟨Nat.le_refl _, Nat.le_refl _⟩ (fun u H locs hp hw => ?_)
    obtain rfl := hp
    refine lv_iload cx.1 cx.2.1 dX12_simple_22 (lv_at hl 0 rfl) ?_
    exact hp_iret cx hw (md_ret h) dX12_simple_24
  · have h := md_ip c4 h
    refine lv_iconst (v := 0) cx.1 cx.2.1 dX12_simple_7 (by decide) ?_
    exact hp_iret cx hw (md_ret h) dX12_simple_8
set_option maxHeartbeats 4000000 in
set_option maxRecDepth 100000 in
theorem km_X12_selfAtom (l : Launch) (D : va_G) (cA : Nat → ClassId) (E : hp_N) (sz : Nat) (ad : Nat → Nat) (hj : md_inj ad) (hE : md_E E) (n : Nat) (σ0 : md_S) (p : (Int32 × md_S)) (h : f_X12_selfAtom n σ0 = some p) : Met l yX12_selfAtom (Cond.code yX12_selfAtom cX12_selfAtom 2 (some .int) :: v_MOD) ({ frames := 9, cells := 0, slots := 0, locals := 222 }) (hp_Pc D vwCl (hp_Tl cA) E sz (md_pic cA ad σ0) [.ref (ad 137)]) (hp_Qi D vwCl (hp_Tl cA) sz (md_pic cA ad σ0) (fun r u => r = p.1 ∧ u = md_pic cA ad p.2)) 0 0 (hp_A (md_pic cA ad σ0) sz) := by
  refine hp_ofW (cc := cX12_selfAtom) (maxL := 2) (ret := (some .int)) (by decide) rfl (Nat.le_of_ble_eq_true rfl) ?_
  intro pp ee ss mm bb mt cd ls cx hsz hw hl
  have hl : lv_has ls 2 [(0, .ref (ad 137))] := hl
  refine lv_aload_n cx.1 cx.2.1 dX12_selfAtom_0 rfl (lv_at hl 0 rfl) ?_
  refine md_gI (k := 64) cx hw hin12c rfl (by decide) (List.mem_cons_of_mem _ mm_130) dX12_selfAtom_1 ?_
  refine lv_istore_n (lv' := [(1, .int (mI σ0 64)), (0, .ref (ad 137))]) cx.1 cx.2.1 dX12_selfAtom_4 rfl hl (by decide) rfl (fun ls hl => ?_)
  have L5 : ∀ (j : Nat) (σ : md_S) (l1 : Int32) (q : (md_S × Int32)) (H : Heap) (locs : List Loc) (ls : Array Slot), f_X12_selfAtom_L5 n j σ l1 = some q → hp_w D vwCl (hp_Tl cA) E (hp_A (md_pic cA ad σ0) sz) ss H locs (md_pic cA ad σ) → lv_has ls 2 [(0, .ref (ad 137)), (1, .int l1)] → (∀ (H : Heap) (locs : List Loc) (ls : Array Slot), hp_w D vwCl (hp_Tl cA) E (hp_A (md_pic cA ad σ0) sz) ss H locs (md_pic cA ad q.1) → lv_has ls 2 [(0, .ref (ad 137)), (1, .int q.2)] → W pp l ee ({ frames := 9, cells := 0, slots := 0, locals := 222 }) ss mm [.ref (ad 137)].toArray bb mt cd H locs 0 0 (MQ bb (hp_Qi D vwCl (hp_Tl cA) sz (md_pic cA ad σ0) (fun r u => r = p.1 ∧ u = md_pic cA ad p.2)) [.ref (ad 137)].toArray ss 0 0 (hp_A (md_pic cA ad σ0) sz)) (F0 mm 25 ls [])) → W pp l ee ({ frames := 9, cells := 0, slots := 0, locals := 222 }) ss mm [.ref (ad 137)].toArray bb mt cd H locs 0 0 (MQ bb (hp_Qi D vwCl (hp_Tl cA) sz (md_pic cA ad σ0) (fun r u => r = p.1 ∧ u = md_pic cA ad p.2)) [.ref (ad 137)].toArray ss 0 0 (hp_A (md_pic cA ad σ0) sz)) (F0 mm 5 ls []) := by
    intro j
    induction j with
    | zero => intro σ l1 q H locs ls h; exact nomatch h
    | succ j ih =>
      intro σ l1 q H locs ls h hw hl K
      refine lv_aload_n cx.1 cx.2.1 dX12_selfAtom_5 rfl (lv_at hl 0 rfl) ?_
      refine md_gR (k := 40) cx hw hin12c (by decide) (by decide) (List.mem_cons_of_mem _ mm_245) dX12_selfAtom_6 ?_
      refine lv_iload_n cx.1 cx.2.1 dX12_selfAtom_9 rfl (lv_at hl 1 rfl) ?_
      obtain ⟨v1, e_v1, h⟩ := md_ob h
      refine md_lI (k := 40) hj cx hw (by decide) rfl rfl rfl e_v1 dX12_selfAtom_10 ?_
      refine lv_iconst (v := (-1)) cx.1 cx.2.1 dX12_selfAtom_11 (by decide) ?_
      refine lv_icmp_eq (tgt := 25) cx.1 cx.2.1 dX12_selfAtom_12 (by decide) (fun c12 => ?_) (fun c12 => ?_)
      · have h := md_ip c12 h
        obtain rfl := Option.some.inj h
        exact K _ _ _ hw (lv_sub hl [0, 1] rfl)
      · have h := md_in c12 h
        refine lv_aload_n cx.1 cx.2.1 dX12_selfAtom_15 rfl (lv_at hl 0 rfl) ?_
        refine md_gR (k := 40) cx hw hin12c (by decide) (by decide) (List.mem_cons_of_mem _ mm_245) dX12_selfAtom_16 ?_
        refine lv_iload_n cx.1 cx.2.1 dX12_selfAtom_19 rfl (lv_at hl 1 rfl) ?_
        obtain ⟨v2, e_v2, h⟩ := md_ob h
        refine md_lI (k := 40) hj cx hw (by decide) rfl rfl rfl e_v2 dX12_selfAtom_20 ?_
        refine lv_istore_n (lv' := [(1, .int v2), (0, .ref (ad 137))]) cx.1 cx.2.1 dX12_selfAtom_21 rfl hl (by decide) rfl (fun ls hl => ?_)
        refine lv_goto (tgt := 5) cx.1 cx.2.1 dX12_selfAtom_22 (by decide) ?_
        exact ih σ v2 q _ _ _ h hw (lv_sub hl [1, 0] rfl) K
  obtain ⟨q3, e_q3, h⟩ := md_ob h
  refine L5 n σ0 ((mI σ0 64)) q3 _ _ _ e_q3 hw (lv_sub hl [1, 0] rfl) (fun H locs ls hw hl => ?_)
  refine lv_aload_n cx.1 cx.2.1 dX12_selfAtom_25 rfl (lv_at hl 0 rfl) ?_
  refine md_gI (k := 62) cx hw hin12c rfl (by decide) (List.mem_cons_of_mem _ mm_186) dX12_selfAtom_26 ?_
  refine lv_sipush (v := 400) cx.1 cx.2.1 dX12_selfAtom_29 (by decide) ?_
  refine lv_icmp_ne (tgt := 42) cx.1 cx.2.1 dX12_selfAtom_32 (by decide) (fun c32 => ?_) (fun c32 => ?_)
  · have h := md_in c32 h
    refine lv_aload_n cx.1 cx.2.1 dX12_selfAtom_42 rfl (lv_at hl 0 rfl) ?_
    refine lv_aload_n cx.1 cx.2.1 dX12_selfAtom_43 rfl (lv_at hl 0 rfl) ?_
    refine md_gR (k := 55) cx hw hin12c (by decide) (by decide) (List.mem_cons_of_mem _ mm_248) dX12_selfAtom_44 ?_
    refine lv_iload_n cx.1 cx.2.1 dX12_selfAtom_47 rfl (lv_at hl 1 rfl) ?_
    obtain ⟨v4, e_v4, h⟩ := md_ob h
    refine md_lI (k := 55) hj cx hw (by decide) rfl rfl rfl e_v4 dX12_selfAtom_48 ?_
    obtain ⟨p5, e_p5, h⟩ := md_ob h
    refine hp_callVv (As := [.int v4]) (rest := []) cx hw (km_X12_captures l D cA E _ ad hj hE n q3.1 v4 p5 e_p5) (cwV 1 cx.2.2.2.2.2.1 (md_giV mm_267 mm_268 mm_269 mm_5 mm_270) rfl rfl rfl hd_X12_captures ⟨Nat.le_of_ble_eq_true rfl, Nat.le_of_ble_eq_true rfl⟩) md_at0 rfl rfl hl.1 rfl (Nat.le_of_ble_eq_true rfl) dX12_selfAtom_49 ⟨Nat.le_refl _, Nat.le_refl _⟩ (fun u H locs hp hw => ?_)
    obtain rfl := hp
    refine lv_aload_n cx.1 cx.2.1 dX12_selfAtom_52 rfl (lv_at hl 0 rfl) ?_
    refine lv_iconst (v := 2) cx.1 cx.2.1 dX12_selfAtom_53 (by decide) ?_
    refine lv_aload_n cx.1 cx.2.1 dX12_selfAtom_54 rfl (lv_at hl 0 rfl) ?_
    refine md_gR (k := 55) cx hw hin12c (by decide) (by decide) (List.mem_cons_of_mem _ mm_248) dX12_selfAtom_55 ?_
    refine lv_iload_n cx.1 cx.2.1 dX12_selfAtom_58 rfl (lv_at hl 1 rfl) ?_
    obtain ⟨v6, e_v6, h⟩ := md_ob h
    refine md_lI (k := 55) hj cx hw (by decide) rfl rfl rfl e_v6 dX12_selfAtom_59 ?_
    refine lv_iconst (v := 0) cx.1 cx.2.1 dX12_selfAtom_60 (by decide) ?_
    obtain ⟨p7, e_p7, h⟩ := md_ob h
    refine hp_callVi (As := [.int 2, .int v6, .int 0]) (rest := []) cx hw (km_X12_simple l D cA E _ ad hj hE n p5.2 (2 : Int32) v6 (0 : Int32) p7 e_p7) (cwV 3 cx.2.2.2.2.2.1 (md_giV mm_271 mm_272 mm_273 mm_5 mm_274) rfl rfl rfl hd_X12_simple ⟨Nat.le_of_ble_eq_true rfl, Nat.le_of_ble_eq_true rfl⟩) md_at0 rfl rfl hl.1 rfl (Nat.le_of_ble_eq_true rfl) dX12_selfAtom_61 ⟨Nat.le_refl _, Nat.le_refl _⟩ (fun r u H locs hp hw => ?_)
    obtain ⟨rfl, rfl⟩ := hp
    exact hp_iret cx hw (md_ret h) dX12_selfAtom_64
  · have h := md_ip c32 h
    refine lv_aload_n cx.1 cx.2.1 dX12_selfAtom_35 rfl (lv_at hl 0 rfl) ?_
    refine lv_iconst (v := 4) cx.1 cx.2.1 dX12_selfAtom_36 (by decide) ?_
    obtain ⟨p8, e_p8, h⟩ := md_ob h
    refine hp_callVv (As := [.int 4]) (rest := []) cx hw (km_X12_fails l D cA E _ ad hj hE n q3.1 (4 : Int32) p8 e_p8) (cwV 1 cx.2.2.2.2.2.1 (md_giV mm_54 mm_55 mm_56 mm_5 mm_57) rfl rfl rfl hd_X12_fails ⟨Nat.le_of_ble_eq_true rfl, Nat.le_of_ble_eq_true rfl⟩) md_at0 rfl rfl hl.1 rfl (Nat.le_of_ble_eq_true rfl) dX12_selfAtom_37 ⟨Nat.le_refl _, Nat.le_refl _⟩ (fun u H locs hp hw => ?_)
    obtain rfl := hp
    refine lv_iconst (v := 0) cx.1 cx.2.1 dX12_selfAtom_40 (by decide) ?_
    exact hp_iret cx hw (md_ret h) dX12_selfAtom_41
set_option maxHeartbeats 4000000 in
set_option maxRecDepth 100000 in
theorem km_X12_numberOf (l : Launch) (D : va_G) (cA : Nat → ClassId) (E : hp_N) (sz : Nat) (ad : Nat → Nat) (hj : md_inj ad) (hE : md_E E) (n : Nat) (σ0 : md_S) (a1 : Int32) (p : (Int32 × md_S)) (h : f_X12_numberOf n σ0 a1 = some p) : Met l yX12_numberOf (Cond.code yX12_numberOf cX12_numberOf 3 (some .int) :: v_MOD) ({ frames := 0, cells := 0, slots := 0, locals := 0 }) (hp_Pc D vwCl (hp_Tl cA) E sz (md_pic cA ad σ0) [.ref (ad 137), .int a1]) (hp_Qi D vwCl (hp_Tl cA) sz (md_pic cA ad σ0) (fun r u => r = p.1 ∧ u = md_pic cA ad p.2)) 0 0 (hp_A (md_pic cA ad σ0) sz) := by
  refine hp_ofW (cc := cX12_numberOf) (maxL := 3) (ret := (some .int)) (by decide) rfl (Nat.le_of_ble_eq_true rfl) ?_
  intro pp ee ss mm bb mt cd ls cx hsz hw hl
  have hl : lv_has ls 3 [(0, .ref (ad 137)), (1, .int a1)] := hl
  refine lv_iconst (v := 0) cx.1 cx.2.1 dX12_numberOf_0 (by decide) ?_
  refine lv_istore_n (lv' := [(2, .int 0), (0, .ref (ad 137)), (1, .int a1)]) cx.1 cx.2.1 dX12_numberOf_1 rfl hl (by decide) rfl (fun ls hl => ?_)
  have L2 : ∀ (j : Nat) (σ : md_S) (l1 : Int32) (l2 : Int32) (q : ((Int32 × md_S) ⊕ (md_S × Int32))) (H : Heap) (locs : List Loc) (ls : Array Slot), f_X12_numberOf_L2 n l1 j σ l2 = some q → hp_w D vwCl (hp_Tl cA) E (hp_A (md_pic cA ad σ0) sz) ss H locs (md_pic cA ad σ) → lv_has ls 3 [(0, .ref (ad 137)), (1, .int l1), (2, .int l2)] → (∀ t, q = Sum.inr t → ∀ (H : Heap) (locs : List Loc) (ls : Array Slot), hp_w D vwCl (hp_Tl cA) E (hp_A (md_pic cA ad σ0) sz) ss H locs (md_pic cA ad t.1) → lv_has ls 3 [(0, .ref (ad 137)), (1, .int l1)] → W pp l ee ({ frames := 0, cells := 0, slots := 0, locals := 0 }) ss mm [.ref (ad 137), .int a1].toArray bb mt cd H locs 0 0 (MQ bb (hp_Qi D vwCl (hp_Tl cA) sz (md_pic cA ad σ0) (fun r u => r = p.1 ∧ u = md_pic cA ad p.2)) [.ref (ad 137), .int a1].toArray ss 0 0 (hp_A (md_pic cA ad σ0) sz)) (F0 mm 28 ls [])) → (∀ r, q = Sum.inl r → r = p) → W pp l ee ({ frames := 0, cells := 0, slots := 0, locals := 0 }) ss mm [.ref (ad 137), .int a1].toArray bb mt cd H locs 0 0 (MQ bb (hp_Qi D vwCl (hp_Tl cA) sz (md_pic cA ad σ0) (fun r u => r = p.1 ∧ u = md_pic cA ad p.2)) [.ref (ad 137), .int a1].toArray ss 0 0 (hp_A (md_pic cA ad σ0) sz)) (F0 mm 2 ls []) := by
    intro j
    induction j with
    | zero => intro σ l1 l2 q H locs ls h; exact nomatch h
    | succ j ih =>
      intro σ l1 l2 q H locs ls h hw hl K KR
      refine lv_iload_n cx.1 cx.2.1 dX12_numberOf_2 rfl (lv_at hl 2 rfl) ?_
      refine lv_aload_n cx.1 cx.2.1 dX12_numberOf_3 rfl (lv_at hl 0 rfl) ?_
      refine md_gI (k := 58) cx hw hin12c rfl (by decide) (List.mem_cons_of_mem _ mm_275) dX12_numberOf_4 ?_
      refine lv_icmp_ge (tgt := 28) cx.1 cx.2.1 dX12_numberOf_7 (by decide) (fun c7 => ?_) (fun c7 => ?_)
      · have h := md_ip c7 h
        exact K _ (Option.some.inj h).symm _ _ _ hw (lv_sub hl [0, 1] rfl)
      · have h := md_in c7 h
        refine lv_aload_n cx.1 cx.2.1 dX12_numberOf_10 rfl (lv_at hl 0 rfl) ?_
        refine md_gR (k := 59) cx hw hin12c (by decide) (by decide) (List.mem_cons_of_mem _ mm_276) dX12_numberOf_11 ?_
        refine lv_iload_n cx.1 cx.2.1 dX12_numberOf_14 rfl (lv_at hl 2 rfl) ?_
        obtain ⟨v1, e_v1, h⟩ := md_ob h
        refine md_lI (k := 59) hj cx hw (by decide) rfl rfl rfl e_v1 dX12_numberOf_15 ?_
        refine lv_iload_n cx.1 cx.2.1 dX12_numberOf_16 rfl (lv_at hl 1 rfl) ?_
        refine lv_icmp_ne (tgt := 22) cx.1 cx.2.1 dX12_numberOf_17 (by decide) (fun c17 => ?_) (fun c17 => ?_)
        · have h := md_in c17 h
          refine lv_iinc (v := (l2 + 1)) (lv' := [(2, .int (l2 + 1)), (0, .ref (ad 137)), (1, .int l1)]) cx.1 cx.2.1 dX12_numberOf_22 hl (k := 2) rfl rfl (by decide) rfl (fun ls hl => ?_)
          refine lv_goto (tgt := 2) cx.1 cx.2.1 dX12_numberOf_25 (by decide) ?_
          exact ih σ l1 ((l2 + 1)) q _ _ _ h hw (lv_sub hl [1, 2, 0] rfl) K KR
        · have h := md_ip c17 h
          refine lv_iload_n cx.1 cx.2.1 dX12_numberOf_20 rfl (lv_at hl 2 rfl) ?_
          exact hp_iret cx hw (md_ret (congrArg some (KR _ (Option.some.inj h).symm))) dX12_numberOf_21
  obtain ⟨q2, e_q2, h⟩ := md_ob h
  refine L2 n σ0 a1 0 q2 _ _ _ e_q2 hw (lv_sub hl [1, 2, 0] rfl) (fun t2 hq2 H locs ls hw hl => ?_) (fun r hr => by subst hr; exact Option.some.inj h)
  subst hq2
  have h := md_inr h
  refine lv_aload_n cx.1 cx.2.1 dX12_numberOf_28 rfl (lv_at hl 0 rfl) ?_
  refine md_gR (k := 59) cx hw hin12c (by decide) (by decide) (List.mem_cons_of_mem _ mm_276) dX12_numberOf_29 ?_
  refine lv_aload_n cx.1 cx.2.1 dX12_numberOf_32 rfl (lv_at hl 0 rfl) ?_
  refine md_gI (k := 58) cx hw hin12c rfl (by decide) (List.mem_cons_of_mem _ mm_275) dX12_numberOf_33 ?_
  refine lv_iload_n cx.1 cx.2.1 dX12_numberOf_36 rfl (lv_at hl 1 rfl) ?_
  obtain ⟨σ3, e_σ3, h⟩ := md_ob h
  refine md_sI (k := 59) hj cx hw (by decide) rfl rfl rfl e_σ3 dX12_numberOf_37 (fun H locs hw => ?_)
  refine lv_aload_n cx.1 cx.2.1 dX12_numberOf_38 rfl (lv_at hl 0 rfl) ?_
  refine lv_dup cx.1 cx.2.1 dX12_numberOf_39 rfl ?_
  refine md_gI (k := 58) cx hw hin12c rfl (by decide) (List.mem_cons_of_mem _ mm_275) dX12_numberOf_40 ?_
  refine lv_iconst (v := 1) cx.1 cx.2.1 dX12_numberOf_43 (by decide) ?_
  refine lv_iadd cx.1 cx.2.1 dX12_numberOf_44 ?_
  obtain ⟨σ4, e_σ4, h⟩ := md_ob h
  refine md_pI (k := 58) cx hw hin12c rfl (by decide) rfl (List.mem_cons_of_mem _ mm_275) rfl e_σ4 dX12_numberOf_45 (fun H locs hw => ?_)
  refine lv_aload_n cx.1 cx.2.1 dX12_numberOf_48 rfl (lv_at hl 0 rfl) ?_
  refine md_gI (k := 58) cx hw hin12c rfl (by decide) (List.mem_cons_of_mem _ mm_275) dX12_numberOf_49 ?_
  refine lv_iconst (v := 1) cx.1 cx.2.1 dX12_numberOf_52 (by decide) ?_
  refine lv_isub cx.1 cx.2.1 dX12_numberOf_53 ?_
  exact hp_iret cx hw (md_ret h) dX12_numberOf_54
set_option maxHeartbeats 4000000 in
set_option maxRecDepth 100000 in
theorem km_X12_simpleNumber (l : Launch) (D : va_G) (cA : Nat → ClassId) (E : hp_N) (sz : Nat) (ad : Nat → Nat) (hj : md_inj ad) (hE : md_E E) (n : Nat) (σ0 : md_S) (p : (Int32 × md_S)) (h : f_X12_simpleNumber n σ0 = some p) : Met l yX12_simpleNumber (Cond.code yX12_simpleNumber cX12_simpleNumber 2 (some .int) :: v_MOD) ({ frames := 8, cells := 0, slots := 0, locals := 198 }) (hp_Pc D vwCl (hp_Tl cA) E sz (md_pic cA ad σ0) [.ref (ad 137)]) (hp_Qi D vwCl (hp_Tl cA) sz (md_pic cA ad σ0) (fun r u => r = p.1 ∧ u = md_pic cA ad p.2)) 0 0 (hp_A (md_pic cA ad σ0) sz) := by
  refine hp_ofW (cc := cX12_simpleNumber) (maxL := 2) (ret := (some .int)) (by decide) rfl (Nat.le_of_ble_eq_true rfl) ?_
  intro pp ee ss mm bb mt cd ls cx hsz hw hl
  have hl : lv_has ls 2 [(0, .ref (ad 137))] := hl
  refine lv_aload_n cx.1 cx.2.1 dX12_simpleNumber_0 rfl (lv_at hl 0 rfl) ?_
  refine lv_iconst (v := 0) cx.1 cx.2.1 dX12_simpleNumber_1 (by decide) ?_
  refine lv_aload_n cx.1 cx.2.1 dX12_simpleNumber_2 rfl (lv_at hl 0 rfl) ?_
  refine lv_aload_n cx.1 cx.2.1 dX12_simpleNumber_3 rfl (lv_at hl 0 rfl) ?_
  refine md_gI (k := 11) cx hw hin12c rfl (by decide) (List.mem_cons_of_mem _ mm_53) dX12_simpleNumber_4 ?_
  obtain ⟨p1, e_p1, h⟩ := md_ob h
  refine hp_callVi (As := [.int (mI σ0 11)]) (rest := [.int 0, .ref (ad 137)]) cx hw (km_X12_numberOf l D cA E _ ad hj hE n σ0 ((mI σ0 11)) p1 e_p1) (cwV 1 cx.2.2.2.2.2.1 (md_giV mm_277 mm_278 mm_279 mm_5 mm_280) rfl rfl rfl hd_X12_numberOf ⟨Nat.le_of_ble_eq_true rfl, Nat.le_of_ble_eq_true rfl⟩) md_at0 rfl rfl hl.1 rfl (Nat.le_of_ble_eq_true rfl) dX12_simpleNumber_7 ⟨Nat.le_refl _, Nat.le_refl _⟩ (fun r u H locs hp hw => ?_)
  obtain ⟨rfl, rfl⟩ := hp
  refine lv_iconst (v := 0) cx.1 cx.2.1 dX12_simpleNumber_10 (by decide) ?_
  obtain ⟨p2, e_p2, h⟩ := md_ob h
  refine hp_callVi (As := [.int 0, .int p1.1, .int 0]) (rest := []) cx hw (km_X12_node l D cA E _ ad hj hE n p1.2 (0 : Int32) (p1.1) (0 : Int32) p2 e_p2) (cwV 3 cx.2.2.2.2.2.1 (md_giV mm_191 mm_192 mm_193 mm_5 mm_194) rfl rfl rfl hd_X12_node ⟨Nat.le_of_ble_eq_true rfl, Nat.le_of_ble_eq_true rfl⟩) md_at0 rfl rfl hl.1 rfl (Nat.le_of_ble_eq_true rfl) dX12_simpleNumber_11 ⟨Nat.le_refl _, Nat.le_refl _⟩ (fun r u H locs hp hw => ?_)
  obtain ⟨rfl, rfl⟩ := hp
  refine lv_istore_n (lv' := [(1, .int p2.1), (0, .ref (ad 137))]) cx.1 cx.2.1 dX12_simpleNumber_14 rfl hl (by decide) rfl (fun ls hl => ?_)
  refine lv_aload_n cx.1 cx.2.1 dX12_simpleNumber_15 rfl (lv_at hl 1 rfl) ?_
  obtain ⟨p3, e_p3, h⟩ := md_ob h
  refine hp_callVv (As := []) (rest := []) cx hw (km_X12_next l D cA E _ ad hj hE n p2.2  p3 e_p3) (cwV 0 cx.2.2.2.2.2.1 (md_giV mm_92 mm_93 mm_94 mm_5 mm_95) rfl rfl rfl hd_X12_next ⟨Nat.le_of_ble_eq_true rfl, Nat.le_of_ble_eq_true rfl⟩) md_at0 rfl rfl hl.1 rfl (Nat.le_of_ble_eq_true rfl) dX12_simpleNumber_16 ⟨Nat.le_refl _, Nat.le_refl _⟩ (fun u H locs hp hw => ?_)
  obtain rfl := hp
  refine lv_iload_n cx.1 cx.2.1 dX12_simpleNumber_19 rfl (lv_at hl 0 rfl) ?_
  exact hp_iret cx hw (md_ret h) dX12_simpleNumber_20
set_option maxHeartbeats 4000000 in
set_option maxRecDepth 100000 in
theorem km_X12_variable (l : Launch) (D : va_G) (cA : Nat → ClassId) (E : hp_N) (sz : Nat) (ad : Nat → Nat) (hj : md_inj ad) (hE : md_E E) (n : Nat) (σ0 : md_S) (p : (Int32 × md_S)) (h : f_X12_variable n σ0 = some p) : Met l yX12_variable (Cond.code yX12_variable cX12_variable 3 (some .int) :: v_MOD) ({ frames := 9, cells := 0, slots := 0, locals := 222 }) (hp_Pc D vwCl (hp_Tl cA) E sz (md_pic cA ad σ0) [.ref (ad 137)]) (hp_Qi D vwCl (hp_Tl cA) sz (md_pic cA ad σ0) (fun r u => r = p.1 ∧ u = md_pic cA ad p.2)) 0 0 (hp_A (md_pic cA ad σ0) sz) := by
  refine hp_ofW (cc := cX12_variable) (maxL := 3) (ret := (some .int)) (by decide) rfl (Nat.le_of_ble_eq_true rfl) ?_
  intro pp ee ss mm bb mt cd ls cx hsz hw hl
  have hl : lv_has ls 3 [(0, .ref (ad 137))] := hl
  refine lv_iconst (v := (-1)) cx.1 cx.2.1 dX12_variable_0 (by decide) ?_
  refine lv_istore_n (lv' := [(1, .int (-1)), (0, .ref (ad 137))]) cx.1 cx.2.1 dX12_variable_1 rfl hl (by decide) rfl (fun ls hl => ?_)
  refine lv_aload_n cx.1 cx.2.1 dX12_variable_2 rfl (lv_at hl 1 rfl) ?_
  refine md_gI (k := 56) cx hw hin12c rfl (by decide) (List.mem_cons_of_mem _ mm_208) dX12_variable_3 ?_
  refine lv_iconst (v := 1) cx.1 cx.2.1 dX12_variable_6 (by decide) ?_
  refine lv_isub cx.1 cx.2.1 dX12_variable_7 ?_
  refine lv_istore_n (lv' := [(2, .int ((mI σ0 56) - 1)), (1, .int (-1)), (0, .ref (ad 137))]) cx.1 cx.2.1 dX12_variable_8 rfl hl (by decide) rfl (fun ls hl => ?_)
  have L9 : ∀ (j : Nat) (σ : md_S) (l1 : Int32) (l2 : Int32) (q : (md_S × Int32 × Int32)) (H : Heap) (locs : List Loc) (ls : Array Slot), f_X12_variable_L9 n j σ l1 l2 = some q → hp_w D vwCl (hp_Tl cA) E (hp_A (md_pic cA ad σ0) sz) ss H locs (md_pic cA ad σ) → lv_has ls 3 [(0, .ref (ad 137)), (1, .int l1), (2, .int l2)] → (∀ (H : Heap) (locs : List Loc) (ls : Array Slot), hp_w D vwCl (hp_Tl cA) E (hp_A (md_pic cA ad σ0) sz) ss H locs (md_pic cA ad q.1) → lv_has ls 3 [(0, .ref (ad 137)), (1, .int q.2.1)] → W pp l ee ({ frames := 9, cells := 0, slots := 0, locals := 222 }) ss mm [.ref (ad 137)].toArray bb mt cd H locs 0 0 (MQ bb (hp_Qi D vwCl (hp_Tl cA) sz (md_pic cA ad σ0) (fun r u => r = p.1 ∧ u = md_pic cA ad p.2)) [.ref (ad 137)].toArray ss 0 0 (hp_A (md_pic cA ad σ0) sz)) (F0 mm 54 ls [])) → W pp l ee ({ frames := 9, cells := 0, slots := 0, locals := 222 }) ss mm [.ref (ad 137)].toArray bb mt cd H locs 0 0 (MQ bb (hp_Qi D vwCl (hp_Tl cA) sz (md_pic cA ad σ0) (fun r u => r = p.1 ∧ u = md_pic cA ad p.2)) [.ref (ad 137)].toArray ss 0 0 (hp_A (md_pic cA ad σ0) sz)) (F0 mm 9 ls []) := by
    intro j
    induction j with
    | zero => intro σ l1 l2 q H locs ls h; exact nomatch h
    | succ j ih =>
      intro σ l1 l2 q H locs ls h hw hl K
      have J47 : ∀ (σ : md_S) (l2 : Int32) (t0 : Int32) (H : Heap) (locs : List Loc) (ls : Array Slot), f_X12_variable_J47 n (f_X12_variable_L9 n j) σ l2 t0 = some q → hp_w D vwCl (hp_Tl cA) E (hp_A (md_pic cA ad σ0) sz) ss H locs (md_pic cA ad σ) → lv_has ls 3 [(0, .ref (ad 137)), (2, .int l2)] → W pp l ee ({ frames := 9, cells := 0, slots := 0, locals := 222 }) ss mm [.ref (ad 137)].toArray bb mt cd H locs 0 0 (MQ bb (hp_Qi D vwCl (hp_Tl cA) sz (md_pic cA ad σ0) (fun r u => r = p.1 ∧ u = md_pic cA ad p.2)) [.ref (ad 137)].toArray ss 0 0 (hp_A (md_pic cA ad σ0) sz)) (F0 mm 47 ls [.int t0]) := by
        intro σ l2 t0 H locs ls h hw hl
        refine lv_istore_n (lv' := [(1, .int t0), (0, .ref (ad 137)), (2, .int l2)]) cx.1 cx.2.1 dX12_variable_47 rfl hl (by decide) rfl (fun ls hl => ?_)
        refine lv_iinc (v := (l2 + (-1))) (lv' := [(2, .int (l2 + (-1))), (1, .int t0), (0, .ref (ad 137))]) cx.1 cx.2.1 dX12_variable_48 hl (k := 2) rfl rfl (by decide) rfl (fun ls hl => ?_)
        refine lv_goto (tgt := 9) cx.1 cx.2.1 dX12_variable_51 (by decide) ?_
        exact ih σ t0 ((l2 + (-1))) q _ _ _ h hw (lv_sub hl [2, 1, 0] rfl) K
      refine lv_iload_n cx.1 cx.2.1 dX12_variable_9 rfl (lv_at hl 2 rfl) ?_
      refine lv_if_lt (tgt := 54) cx.1 cx.2.1 dX12_variable_10 (by decide) (fun c10 => ?_) (fun c10 => ?_)
      · have h := md_ip c10 h
        obtain rfl := Option.some.inj h
        exact K _ _ _ hw (lv_sub hl [0, 1] rfl)
      · have h := md_in c10 h
        refine lv_iload_n cx.1 cx.2.1 dX12_variable_13 rfl (lv_at hl 1 rfl) ?_
        refine lv_iconst (v := (-1)) cx.1 cx.2.1 dX12_variable_14 (by decide) ?_
        refine lv_icmp_ne (tgt := 54) cx.1 cx.2.1 dX12_variable_15 (by decide) (fun c15 => ?_) (fun c15 => ?_)
        · have h := md_in c15 h
          obtain rfl := Option.some.inj h
          exact K _ _ _ hw (lv_sub hl [0, 1] rfl)
        · have h := md_ip c15 h
          refine lv_aload_n cx.1 cx.2.1 dX12_variable_18 rfl (lv_at hl 0 rfl) ?_
          refine md_gR (k := 52) cx hw hin12c (by decide) (by decide) (List.mem_cons_of_mem _ mm_211) dX12_variable_19 ?_
          refine lv_aload_n cx.1 cx.2.1 dX12_variable_22 rfl (lv_at hl 0 rfl) ?_
          refine md_gR (k := 57) cx hw hin12c (by decide) (by decide) (List.mem_cons_of_mem _ mm_207) dX12_variable_23 ?_
          refine lv_iload_n cx.1 cx.2.1 dX12_variable_26 rfl (lv_at hl 2 rfl) ?_
          obtain ⟨v1, e_v1, h⟩ := md_ob h
          refine md_lI (k := 57) hj cx hw (by decide) rfl rfl rfl e_v1 dX12_variable_27 ?_
          obtain ⟨v2, e_v2, h⟩ := md_ob h
          refine md_lJ (k := 52) hj cx hw (by decide) rfl rfl rfl e_v2 dX12_variable_28 ?_
          refine lv_aload_n cx.1 cx.2.1 dX12_variable_29 rfl (lv_at hl 0 rfl) ?_
          refine md_gJ (k := 12) cx hw hin12c rfl (by decide) (List.mem_cons_of_mem _ mm_41) dX12_variable_30 ?_
          refine W.lcmp cx.1 cx.2.1 dX12_variable_33 ?_
          refine lv_if_ne (tgt := 46) cx.1 cx.2.1 dX12_variable_34 (by decide) (fun c34 => ?_) (fun c34 => ?_)
          · have h := md_in c34 h
            refine lv_iconst (v := (-1)) cx.1 cx.2.1 dX12_variable_46 (by decide) ?_
            exact J47 σ l2 ((-1)) _ _ _ h hw (lv_sub hl [0, 2] rfl)
          · have h := md_ip c34 h
            refine lv_aload_n cx.1 cx.2.1 dX12_variable_37 rfl (lv_at hl 0 rfl) ?_
            refine md_gR (k := 57) cx hw hin12c (by decide) (by decide) (List.mem_cons_of_mem _ mm_207) dX12_variable_38 ?_
            refine lv_iload_n cx.1 cx.2.1 dX12_variable_41 rfl (lv_at hl 2 rfl) ?_
            obtain ⟨v3, e_v3, h⟩ := md_ob h
            refine md_lI (k := 57) hj cx hw (by decide) rfl rfl rfl e_v3 dX12_variable_42 ?_
            refine lv_goto (tgt := 47) cx.1 cx.2.1 dX12_variable_43 (by decide) ?_
            exact J47 σ l2 v3 _ _ _ h hw (lv_sub hl [0, 2] rfl)
  obtain ⟨q4, e_q4, h⟩ := md_ob h
  refine L9 n σ0 ((-1)) (((mI σ0 56) - 1)) q4 _ _ _ e_q4 hw (lv_sub hl [2, 1, 0] rfl) (fun H locs ls hw hl => ?_)
  refine lv_aload_n cx.1 cx.2.1 dX12_variable_54 rfl (lv_at hl 0 rfl) ?_
  refine md_gI (k := 62) cx hw hin12c rfl (by decide) (List.mem_cons_of_mem _ mm_186) dX12_variable_55 ?_
  refine lv_sipush (v := 400) cx.1 cx.2.1 dX12_variable_58 (by decide) ?_
  refine lv_icmp_ne (tgt := 71) cx.1 cx.2.1 dX12_variable_61 (by decide) (fun c61 => ?_) (fun c61 => ?_)
  · have h := md_in c61 h
    refine lv_iload_n cx.1 cx.2.1 dX12_variable_71 rfl (lv_at hl 1 rfl) ?_
    refine lv_iconst (v := (-1)) cx.1 cx.2.1 dX12_variable_72 (by decide) ?_
    refine lv_icmp_ne (tgt := 83) cx.1 cx.2.1 dX12_variable_73 (by decide) (fun c73 => ?_) (fun c73 => ?_)
    · have h := md_in c73 h
      refine lv_aload_n cx.1 cx.2.1 dX12_variable_83 rfl (lv_at hl 0 rfl) ?_
      refine lv_iload_n cx.1 cx.2.1 dX12_variable_84 rfl (lv_at hl 1 rfl) ?_
      obtain ⟨p5, e_p5, h⟩ := md_ob h
      refine hp_callVv (As := [.int q4.2.1]) (rest := []) cx hw (km_X12_captures l D cA E _ ad hj hE n q4.1 (q4.2.1) p5 e_p5) (cwV 1 cx.2.2.2.2.2.1 (md_giV mm_267 mm_268 mm_269 mm_5 mm_270) rfl rfl rfl hd_X12_captures ⟨Nat.le_of_ble_eq_true rfl, Nat.le_of_ble_eq_true rfl⟩) md_at0 rfl rfl hl.1 rfl (Nat.le_of_ble_eq_true rfl) dX12_variable_85 ⟨Nat.le_refl _, Nat.le_refl _⟩ (fun u H locs hp hw => ?_)
      obtain rfl := hp
      refine lv_aload_n cx.1 cx.2.1 dX12_variable_88 rfl (lv_at hl 0 rfl) ?_
      refine lv_iconst (v := 2) cx.1 cx.2.1 dX12_variable_89 (by decide) ?_
      refine lv_iload_n cx.1 cx.2.1 dX12_variable_90 rfl (lv_at hl 1 rfl) ?_
      refine lv_iconst (v := 0) cx.1 cx.2.1 dX12_variable_91 (by decide) ?_
      obtain ⟨p6, e_p6, h⟩ := md_ob h
      refine hp_callVi (As := [.int 2, .int q4.2.1, .int 0]) (rest := []) cx hw (km_X12_simple l D cA E _ ad hj hE n p5.2 (2 : Int32) (q4.2.1) (0 : Int32) p6 e_p6) (cwV 3 cx.2.2.2.2.2.1 (md_giV mm_271 mm_272 mm_273 mm_5 mm_274) rfl rfl rfl hd_X12_simple ⟨Nat.le_of_ble_eq_true rfl, Nat.le_of_ble_eq_true rfl⟩) md_at0 rfl rfl hl.1 rfl (Nat.le_of_ble_eq_true rfl) dX12_variable_92 ⟨Nat.le_refl _, Nat.le_refl _⟩ (fun r u H locs hp hw => ?_)
      obtain ⟨rfl, rfl⟩ := hp
      exact hp_iret cx hw (md_ret h) dX12_variable_95
    · have h := md_ip c73 h
      refine lv_aload_n cx.1 cx.2.1 dX12_variable_76 rfl (lv_at hl 0 rfl) ?_
      refine lv_iconst (v := 3) cx.1 cx.2.1 dX12_variable_77 (by decide) ?_
      obtain ⟨p7, e_p7, h⟩ := md_ob h
      refine hp_callVv (As := [.int 3]) (rest := []) cx hw (km_X12_fails l D cA E _ ad hj hE n q4.1 (3 : Int32) p7 e_p7) (cwV 1 cx.2.2.2.2.2.1 (md_giV mm_54 mm_55 mm_56 mm_5 mm_57) rfl rfl rfl hd_X12_fails ⟨Nat.le_of_ble_eq_true rfl, Nat.le_of_ble_eq_true rfl⟩) md_at0 rfl rfl hl.1 rfl (Nat.le_of_ble_eq_true rfl) dX12_variable_78 ⟨Nat.le_refl _, Nat.le_refl _⟩ (fun u H locs hp hw => ?_)
      obtain rfl := hp
      refine lv_iconst (v := 0) cx.1 cx.2.1 dX12_variable_81 (by decide) ?_
      exact hp_iret cx hw (md_ret h) dX12_variable_82
  · have h := md_ip c61 h
    refine lv_aload_n cx.1 cx.2.1 dX12_variable_64 rfl (lv_at hl 0 rfl) ?_
    refine lv_iconst (v := 4) cx.1 cx.2.1 dX12_variable_65 (by decide) ?_
    obtain ⟨p8, e_p8, h⟩ := md_ob h
    refine hp_callVv (As := [.int 4]) (rest := []) cx hw (km_X12_fails l D cA E _ ad hj hE n q4.1 (4 : Int32) p8 e_p8) (cwV 1 cx.2.2.2.2.2.1 (md_giV mm_54 mm_55 mm_56 mm_5 mm_57) rfl rfl rfl hd_X12_fails ⟨Nat.le_of_ble_eq_true rfl, Nat.le_of_ble_eq_true rfl⟩) md_at0 rfl rfl hl.1 rfl (Nat.le_of_ble_eq_true rfl) dX12_variable_66 ⟨Nat.le_refl _, Nat.le_refl _⟩ (fun u H locs hp hw => ?_)
    obtain rfl := hp
    refine lv_iconst (v := 0) cx.1 cx.2.1 dX12_variable_69 (by decide) ?_
    exact hp_iret cx hw (md_ret h) dX12_variable_70
set_option maxHeartbeats 4000000 in
set_option maxRecDepth 100000 in
theorem km_X12_atom (l : Launch) (D : va_G) (cA : Nat → ClassId) (E : hp_N) (sz : Nat) (ad : Nat → Nat) (hj : md_inj ad) (hE : md_E E) (n d : Nat) (rec : md_R) (ih20 : ∀ (sz : Nat) (σ : md_S) (p : Int32 × md_S), rec 20 0 0 0 σ = some p → Met l yX12_asking (Cond.code yX12_asking cX12_asking 3 (some .int) :: v_MOD) ({ frames := d + 10, cells := 0, slots := 0, locals := 25 * d + 244 }) (hp_Pc D vwCl (hp_Tl cA) E sz (md_pic cA ad σ) [.ref (ad 137)]) (hp_Qi D vwCl (hp_Tl cA) sz (md_pic cA ad σ) (fun r u => r = p.1 ∧ u = md_pic cA ad p.2)) 0 0 (hp_A (md_pic cA ad σ) sz)) (ih0 : ∀ (sz : Nat) (σ : md_S) (p : Int32 × md_S), rec 0 0 0 0 σ = some p → Met l yX12_e (Cond.code yX12_e cX12_e 2 (some .int) :: v_MOD) ({ frames := d + 10, cells := 0, slots := 0, locals := 25 * d + 244 }) (hp_Pc D vwCl (hp_Tl cA) E sz (md_pic cA ad σ) [.ref (ad 137)]) (hp_Qi D vwCl (hp_Tl cA) sz (md_pic cA ad σ) (fun r u => r = p.1 ∧ u = md_pic cA ad p.2)) 0 0 (hp_A (md_pic cA ad σ) sz)) (ih18 : ∀ (sz : Nat) (σ : md_S) (p : Int32 × md_S), rec 18 0 0 0 σ = some p → Met l yX12_fun (Cond.code yX12_fun cX12_fun 6 (some .int) :: v_MOD) ({ frames := d + 10, cells := 0, slots := 0, locals := 25 * d + 244 }) (hp_Pc D vwCl (hp_Tl cA) E sz (md_pic cA ad σ) [.ref (ad 137)]) (hp_Qi D vwCl (hp_Tl cA) sz (md_pic cA ad σ) (fun r u => r = p.1 ∧ u = md_pic cA ad p.2)) 0 0 (hp_A (md_pic cA ad σ) sz)) (ih19 : ∀ (sz : Nat) (σ : md_S) (p : Int32 × md_S), rec 19 0 0 0 σ = some p → Met l yX12_row (Cond.code yX12_row cX12_row 3 (some .int) :: v_MOD) ({ frames := d + 10, cells := 0, slots := 0, locals := 25 * d + 244 }) (hp_Pc D vwCl (hp_Tl cA) E sz (md_pic cA ad σ) [.ref (ad 137)]) (hp_Qi D vwCl (hp_Tl cA) sz (md_pic cA ad σ) (fun r u => r = p.1 ∧ u = md_pic cA ad p.2)) 0 0 (hp_A (md_pic cA ad σ) sz)) (σ0 : md_S) (p : (Int32 × md_S)) (h : f_X12_atom n rec σ0 = some p) : Met l yX12_atom (Cond.code yX12_atom cX12_atom 2 (some .int) :: v_MOD) ({ frames := (d + 1) + 10, cells := 0, slots := 0, locals := 25 * ((d + 1)) + 244 }) (hp_Pc D vwCl (hp_Tl cA) E sz (md_pic cA ad σ0) [.ref (ad 137)]) (hp_Qi D vwCl (hp_Tl cA) sz (md_pic cA ad σ0) (fun r u => r = p.1 ∧ u = md_pic cA ad p.2)) 0 0 (hp_A (md_pic cA ad σ0) sz) := by
  refine hp_ofW (cc := cX12_atom) (maxL := 2) (ret := (some .int)) (by decide) rfl (Nat.le_of_ble_eq_true rfl) ?_
  intro pp ee ss mm bb mt cd ls cx hsz hw hl
  have hl : lv_has ls 2 [(0, .ref (ad 137))] := hl
  have J130 : ∀ (σ : md_S) (H : Heap) (locs : List Loc) (ls : Array Slot), f_X12_atom_J130 n rec σ = some p → hp_w D vwCl (hp_Tl cA) E (hp_A (md_pic cA ad σ0) sz) ss H locs (md_pic cA ad σ) → lv_has ls 2 [(0, .ref (ad 137))] → W pp l ee ({ frames := (d + 1) + 10, cells := 0, slots := 0, locals := 25 * ((d + 1)) + 244 }) ss mm [.ref (ad 137)].toArray bb mt cd H locs 0 0 (MQ bb (hp_Qi D vwCl (hp_Tl cA) sz (md_pic cA ad σ0) (fun r u => r = p.1 ∧ u = md_pic cA ad p.2)) [.ref (ad 137)].toArray ss 0 0 (hp_A (md_pic cA ad σ0) sz)) (F0 mm 130 ls []) := by
    intro σ H locs ls h hw hl
    refine lv_aload_n cx.1 cx.2.1 dX12_atom_130 rfl (lv_at hl 0 rfl) ?_
    obtain ⟨p1, e_p1, h⟩ := md_ob h
    refine hp_callVi (As := []) (rest := []) cx hw (ih20 _ σ  p1 e_p1) (cwV 0 cx.2.2.2.2.2.1 (md_giV mm_301 mm_302 mm_303 mm_5 mm_304) rfl rfl rfl hd_X12_asking ⟨by dsimp only; omega, by dsimp only; omega⟩) md_at0 rfl rfl hl.1 rfl (Nat.le_of_ble_eq_true rfl) dX12_atom_131 ⟨Nat.le_refl _, Nat.le_refl _⟩ (fun r u H locs hp hw => ?_)
    obtain ⟨rfl, rfl⟩ := hp
    exact hp_iret cx hw (md_ret h) dX12_atom_134
  refine lv_aload_n cx.1 cx.2.1 dX12_atom_0 rfl (lv_at hl 0 rfl) ?_
  refine md_gI (k := 8) cx hw hin12c rfl (by decide) (List.mem_cons_of_mem _ mm_15) dX12_atom_1 ?_
  refine lv_iconst (v := 3) cx.1 cx.2.1 dX12_atom_4 (by decide) ?_
  refine lv_icmp_ne (tgt := 22) cx.1 cx.2.1 dX12_atom_5 (by decide) (fun c5 => ?_) (fun c5 => ?_)
  · have h := md_in c5 h
    refine lv_aload_n cx.1 cx.2.1 dX12_atom_22 rfl (lv_at hl 0 rfl) ?_
    refine md_gI (k := 8) cx hw hin12c rfl (by decide) (List.mem_cons_of_mem _ mm_15) dX12_atom_23 ?_
    refine lv_iconst (v := 1) cx.1 cx.2.1 dX12_atom_26 (by decide) ?_
    refine lv_icmp_ne (tgt := 35) cx.1 cx.2.1 dX12_atom_27 (by decide) (fun c27 => ?_) (fun c27 => ?_)
    · have h := md_in c27 h
      refine lv_aload_n cx.1 cx.2.1 dX12_atom_35 rfl (lv_at hl 0 rfl) ?_
      refine lv_bipush (v := 14) cx.1 cx.2.1 dX12_atom_36 (by decide) ?_
      obtain ⟨p2, e_p2, h⟩ := md_ob h
      refine hp_callVi (As := [.int 14]) (rest := []) cx hw (km_X12_isKey l D cA E _ ad hj hE n σ0 (14 : Int32) p2 e_p2) (cwV 1 cx.2.2.2.2.2.1 (md_giV mm_96 mm_97 mm_98 mm_5 mm_99) rfl rfl rfl hd_X12_isKey ⟨by dsimp only; omega, by dsimp only; omega⟩) md_at0 rfl rfl hl.1 rfl (Nat.le_of_ble_eq_true rfl) dX12_atom_38 ⟨Nat.le_refl _, Nat.le_refl _⟩ (fun r u H locs hp hw => ?_)
      obtain ⟨rfl, rfl⟩ := hp
      refine lv_if_eq (tgt := 52) cx.1 cx.2.1 dX12_atom_41 (by decide) (fun c41 => ?_) (fun c41 => ?_)
      · have h := md_ip c41 h
        refine lv_aload_n cx.1 cx.2.1 dX12_atom_52 rfl (lv_at hl 0 rfl) ?_
        refine lv_bipush (v := 15) cx.1 cx.2.1 dX12_atom_53 (by decide) ?_
        obtain ⟨p3, e_p3, h⟩ := md_ob h
        refine hp_callVi (As := [.int 15]) (rest := []) cx hw (km_X12_isKey l D cA E _ ad hj hE n p2.2 (15 : Int32) p3 e_p3) (cwV 1 cx.2.2.2.2.2.1 (md_giV mm_96 mm_97 mm_98 mm_5 mm_99) rfl rfl rfl hd_X12_isKey ⟨by dsimp only; omega, by dsimp only; omega⟩) md_at0 rfl rfl hl.1 rfl (Nat.le_of_ble_eq_true rfl) dX12_atom_55 ⟨Nat.le_refl _, Nat.le_refl _⟩ (fun r u H locs hp hw => ?_)
        obtain ⟨rfl, rfl⟩ := hp
        refine lv_if_eq (tgt := 66) cx.1 cx.2.1 dX12_atom_58 (by decide) (fun c58 => ?_) (fun c58 => ?_)
        · have h := md_ip c58 h
          refine lv_aload_n cx.1 cx.2.1 dX12_atom_66 rfl (lv_at hl 0 rfl) ?_
          refine lv_bipush (v := 16) cx.1 cx.2.1 dX12_atom_67 (by decide) ?_
          obtain ⟨p4, e_p4, h⟩ := md_ob h
          refine hp_callVi (As := [.int 16]) (rest := []) cx hw (km_X12_isKey l D cA E _ ad hj hE n p3.2 (16 : Int32) p4 e_p4) (cwV 1 cx.2.2.2.2.2.1 (md_giV mm_96 mm_97 mm_98 mm_5 mm_99) rfl rfl rfl hd_X12_isKey ⟨by dsimp only; omega, by dsimp only; omega⟩) md_at0 rfl rfl hl.1 rfl (Nat.le_of_ble_eq_true rfl) dX12_atom_69 ⟨Nat.le_refl _, Nat.le_refl _⟩ (fun r u H locs hp hw => ?_)
          obtain ⟨rfl, rfl⟩ := hp
          refine lv_if_eq (tgt := 84) cx.1 cx.2.1 dX12_atom_72 (by decide) (fun c72 => ?_) (fun c72 => ?_)
          · have h := md_ip c72 h
            refine lv_aload_n cx.1 cx.2.1 dX12_atom_84 rfl (lv_at hl 0 rfl) ?_
            refine lv_bipush (v := 13) cx.1 cx.2.1 dX12_atom_85 (by decide) ?_
            obtain ⟨p5, e_p5, h⟩ := md_ob h
            refine hp_callVi (As := [.int 13]) (rest := []) cx hw (km_X12_isKey l D cA E _ ad hj hE n p4.2 (13 : Int32) p5 e_p5) (cwV 1 cx.2.2.2.2.2.1 (md_giV mm_96 mm_97 mm_98 mm_5 mm_99) rfl rfl rfl hd_X12_isKey ⟨by dsimp only; omega, by dsimp only; omega⟩) md_at0 rfl rfl hl.1 rfl (Nat.le_of_ble_eq_true rfl) dX12_atom_87 ⟨Nat.le_refl _, Nat.le_refl _⟩ (fun r u H locs hp hw => ?_)
            obtain ⟨rfl, rfl⟩ := hp
            refine lv_if_eq (tgt := 98) cx.1 cx.2.1 dX12_atom_90 (by decide) (fun c90 => ?_) (fun c90 => ?_)
            · have h := md_ip c90 h
              refine lv_aload_n cx.1 cx.2.1 dX12_atom_98 rfl (lv_at hl 0 rfl) ?_
              refine lv_bipush (v := 12) cx.1 cx.2.1 dX12_atom_99 (by decide) ?_
              obtain ⟨p6, e_p6, h⟩ := md_ob h
              refine hp_callVi (As := [.int 12]) (rest := []) cx hw (km_X12_isKey l D cA E _ ad hj hE n p5.2 (12 : Int32) p6 e_p6) (cwV 1 cx.2.2.2.2.2.1 (md_giV mm_96 mm_97 mm_98 mm_5 mm_99) rfl rfl rfl hd_X12_isKey ⟨by dsimp only; omega, by dsimp only; omega⟩) md_at0 rfl rfl hl.1 rfl (Nat.le_of_ble_eq_true rfl) dX12_atom_101 ⟨Nat.le_refl _, Nat.le_refl _⟩ (fun r u H locs hp hw => ?_)
              obtain ⟨rfl, rfl⟩ := hp
              refine lv_if_eq (tgt := 112) cx.1 cx.2.1 dX12_atom_104 (by decide) (fun c104 => ?_) (fun c104 => ?_)
              · have h := md_ip c104 h
                refine lv_aload_n cx.1 cx.2.1 dX12_atom_112 rfl (lv_at hl 0 rfl) ?_
                refine lv_bipush (v := 17) cx.1 cx.2.1 dX12_atom_113 (by decide) ?_
                obtain ⟨p7, e_p7, h⟩ := md_ob h
                refine hp_callVi (As := [.int 17]) (rest := []) cx hw (km_X12_isKey l D cA E _ ad hj hE n p6.2 (17 : Int32) p7 e_p7) (cwV 1 cx.2.2.2.2.2.1 (md_giV mm_96 mm_97 mm_98 mm_5 mm_99) rfl rfl rfl hd_X12_isKey ⟨by dsimp only; omega, by dsimp only; omega⟩) md_at0 rfl rfl hl.1 rfl (Nat.le_of_ble_eq_true rfl) dX12_atom_115 ⟨Nat.le_refl _, Nat.le_refl _⟩ (fun r u H locs hp hw => ?_)
                obtain ⟨rfl, rfl⟩ := hp
                refine lv_if_ne (tgt := 130) cx.1 cx.2.1 dX12_atom_118 (by decide) (fun c118 => ?_) (fun c118 => ?_)
                · have h := md_in c118 h
                  exact J130 p7.2 _ _ _ h hw (lv_sub hl [0] rfl)
                · have h := md_ip c118 h
                  refine lv_aload_n cx.1 cx.2.1 dX12_atom_121 rfl (lv_at hl 0 rfl) ?_
                  refine lv_bipush (v := 18) cx.1 cx.2.1 dX12_atom_122 (by decide) ?_
                  obtain ⟨p8, e_p8, h⟩ := md_ob h
                  refine hp_callVi (As := [.int 18]) (rest := []) cx hw (km_X12_isKey l D cA E _ ad hj hE n p7.2 (18 : Int32) p8 e_p8) (cwV 1 cx.2.2.2.2.2.1 (md_giV mm_96 mm_97 mm_98 mm_5 mm_99) rfl rfl rfl hd_X12_isKey ⟨by dsimp only; omega, by dsimp only; omega⟩) md_at0 rfl rfl hl.1 rfl (Nat.le_of_ble_eq_true rfl) dX12_atom_124 ⟨Nat.le_refl _, Nat.le_refl _⟩ (fun r u H locs hp hw => ?_)
                  obtain ⟨rfl, rfl⟩ := hp
                  refine lv_if_eq (tgt := 135) cx.1 cx.2.1 dX12_atom_127 (by decide) (fun c127 => ?_) (fun c127 => ?_)
                  · have h := md_ip c127 h
                    refine lv_iconst (v := 0) cx.1 cx.2.1 dX12_atom_135 (by decide) ?_
                    refine lv_istore_n (lv' := [(1, .int 0), (0, .ref (ad 137))]) cx.1 cx.2.1 dX12_atom_136 rfl hl (by decide) rfl (fun ls hl => ?_)
                    refine lv_aload_n cx.1 cx.2.1 dX12_atom_137 rfl (lv_at hl 1 rfl) ?_
                    refine lv_bipush (v := 123) cx.1 cx.2.1 dX12_atom_138 (by decide) ?_
                    obtain ⟨p9, e_p9, h⟩ := md_ob h
                    refine hp_callVi (As := [.int 123]) (rest := []) cx hw (km_X12_isSign l D cA E _ ad hj hE n p8.2 (123 : Int32) p9 e_p9) (cwV 1 cx.2.2.2.2.2.1 (md_giV mm_84 mm_85 mm_86 mm_5 mm_87) rfl rfl rfl hd_X12_isSign ⟨by dsimp only; omega, by dsimp only; omega⟩) md_at0 rfl rfl hl.1 rfl (Nat.le_of_ble_eq_true rfl) dX12_atom_140 ⟨Nat.le_refl _, Nat.le_refl _⟩ (fun r u H locs hp hw => ?_)
                    obtain ⟨rfl, rfl⟩ := hp
                    refine lv_if_eq (tgt := 154) cx.1 cx.2.1 dX12_atom_143 (by decide) (fun c143 => ?_) (fun c143 => ?_)
                    · have h := md_ip c143 h
                      refine lv_aload_n cx.1 cx.2.1 dX12_atom_154 rfl (lv_at hl 1 rfl) ?_
                      refine lv_bipush (v := 40) cx.1 cx.2.1 dX12_atom_155 (by decide) ?_
                      obtain ⟨p10, e_p10, h⟩ := md_ob h
                      refine hp_callVi (As := [.int 40]) (rest := []) cx hw (km_X12_isSign l D cA E _ ad hj hE n p9.2 (40 : Int32) p10 e_p10) (cwV 1 cx.2.2.2.2.2.1 (md_giV mm_84 mm_85 mm_86 mm_5 mm_87) rfl rfl rfl hd_X12_isSign ⟨by dsimp only; omega, by dsimp only; omega⟩) md_at0 rfl rfl hl.1 rfl (Nat.le_of_ble_eq_true rfl) dX12_atom_157 ⟨Nat.le_refl _, Nat.le_refl _⟩ (fun r u H locs hp hw => ?_)
                      obtain ⟨rfl, rfl⟩ := hp
                      refine lv_if_eq (tgt := 181) cx.1 cx.2.1 dX12_atom_160 (by decide) (fun c160 => ?_) (fun c160 => ?_)
                      · have h := md_ip c160 h
                        refine lv_aload_n cx.1 cx.2.1 dX12_atom_181 rfl (lv_at hl 1 rfl) ?_
                        obtain ⟨p11, e_p11, h⟩ := md_ob h
                        refine hp_callVi (As := []) (rest := []) cx hw (km_X12_isFine l D cA E _ ad hj hE n p10.2  p11 e_p11) (cwV 0 cx.2.2.2.2.2.1 (md_giV mm_64 mm_65 mm_66 mm_5 mm_67) rfl rfl rfl hd_X12_isFine ⟨by dsimp only; omega, by dsimp only; omega⟩) md_at0 rfl rfl hl.1 rfl (Nat.le_of_ble_eq_true rfl) dX12_atom_182 ⟨Nat.le_refl _, Nat.le_refl _⟩ (fun r u H locs hp hw => ?_)
                        obtain ⟨rfl, rfl⟩ := hp
                        refine lv_if_eq (tgt := 192) cx.1 cx.2.1 dX12_atom_185 (by decide) (fun c185 => ?_) (fun c185 => ?_)
                        · have h := md_ip c185 h
                          refine lv_iload_n cx.1 cx.2.1 dX12_atom_192 rfl (lv_at hl 0 rfl) ?_
                          exact hp_iret cx hw (md_ret h) dX12_atom_193
                        · have h := md_in c185 h
                          refine lv_aload_n cx.1 cx.2.1 dX12_atom_188 rfl (lv_at hl 1 rfl) ?_
                          obtain ⟨p12, e_p12, h⟩ := md_ob h
                          refine hp_callVv (As := []) (rest := []) cx hw (km_X12_misfit l D cA E _ ad hj hE n p11.2  p12 e_p12) (cwV 0 cx.2.2.2.2.2.1 (md_giV mm_88 mm_89 mm_90 mm_5 mm_91) rfl rfl rfl hd_X12_misfit ⟨by dsimp only; omega, by dsimp only; omega⟩) md_at0 rfl rfl hl.1 rfl (Nat.le_of_ble_eq_true rfl) dX12_atom_189 ⟨Nat.le_refl _, Nat.le_refl _⟩ (fun u H locs hp hw => ?_)
                          obtain rfl := hp
                          refine lv_iload_n cx.1 cx.2.1 dX12_atom_192 rfl (lv_at hl 0 rfl) ?_
                          exact hp_iret cx hw (md_ret h) dX12_atom_193
                      · have h := md_in c160 h
                        refine lv_aload_n cx.1 cx.2.1 dX12_atom_163 rfl (lv_at hl 1 rfl) ?_
                        obtain ⟨p13, e_p13, h⟩ := md_ob h
                        refine hp_callVv (As := []) (rest := []) cx hw (km_X12_next l D cA E _ ad hj hE n p10.2  p13 e_p13) (cwV 0 cx.2.2.2.2.2.1 (md_giV mm_92 mm_93 mm_94 mm_5 mm_95) rfl rfl rfl hd_X12_next ⟨by dsimp only; omega, by dsimp only; omega⟩) md_at0 rfl rfl hl.1 rfl (Nat.le_of_ble_eq_true rfl) dX12_atom_164 ⟨Nat.le_refl _, Nat.le_refl _⟩ (fun u H locs hp hw => ?_)
                        obtain rfl := hp
                        refine lv_aload_n cx.1 cx.2.1 dX12_atom_167 rfl (lv_at hl 1 rfl) ?_
                        obtain ⟨p14, e_p14, h⟩ := md_ob h
                        refine hp_callVi (As := []) (rest := []) cx hw (ih0 _ p13.2  p14 e_p14) (cwV 0 cx.2.2.2.2.2.1 (md_giV mm_195 mm_196 mm_197 mm_5 mm_198) rfl rfl rfl hd_X12_e ⟨by dsimp only; omega, by dsimp only; omega⟩) md_at0 rfl rfl hl.1 rfl (Nat.le_of_ble_eq_true rfl) dX12_atom_168 ⟨Nat.le_refl _, Nat.le_refl _⟩ (fun r u H locs hp hw => ?_)
                        obtain ⟨rfl, rfl⟩ := hp
                        refine lv_istore_n (lv' := [(1, .int p14.1), (0, .ref (ad 137))]) cx.1 cx.2.1 dX12_atom_171 rfl hl (by decide) rfl (fun ls hl => ?_)
                        refine lv_aload_n cx.1 cx.2.1 dX12_atom_172 rfl (lv_at hl 1 rfl) ?_
                        refine lv_bipush (v := 41) cx.1 cx.2.1 dX12_atom_173 (by decide) ?_
                        obtain ⟨p15, e_p15, h⟩ := md_ob h
                        refine hp_callVv (As := [.int 41]) (rest := []) cx hw (km_X12_sign l D cA E _ ad hj hE n p14.2 (41 : Int32) p15 e_p15) (cwV 1 cx.2.2.2.2.2.1 (md_giV mm_161 mm_162 mm_163 mm_5 mm_164) rfl rfl rfl hd_X12_sign ⟨by dsimp only; omega, by dsimp only; omega⟩) md_at0 rfl rfl hl.1 rfl (Nat.le_of_ble_eq_true rfl) dX12_atom_175 ⟨Nat.le_refl _, Nat.le_refl _⟩ (fun u H locs hp hw => ?_)
                        obtain rfl := hp
                        refine lv_goto (tgt := 192) cx.1 cx.2.1 dX12_atom_178 (by decide) ?_
                        refine lv_iload_n cx.1 cx.2.1 dX12_atom_192 rfl (lv_at hl 0 rfl) ?_
                        exact hp_iret cx hw (md_ret h) dX12_atom_193
                    · have h := md_in c143 h
                      refine lv_aload_n cx.1 cx.2.1 dX12_atom_146 rfl (lv_at hl 1 rfl) ?_
                      obtain ⟨p16, e_p16, h⟩ := md_ob h
                      refine hp_callVi (As := []) (rest := []) cx hw (ih19 _ p9.2  p16 e_p16) (cwV 0 cx.2.2.2.2.2.1 (md_giV mm_257 mm_258 mm_259 mm_5 mm_260) rfl rfl rfl hd_X12_row ⟨by dsimp only; omega, by dsimp only; omega⟩) md_at0 rfl rfl hl.1 rfl (Nat.le_of_ble_eq_true rfl) dX12_atom_147 ⟨Nat.le_refl _, Nat.le_refl _⟩ (fun r u H locs hp hw => ?_)
                      obtain ⟨rfl, rfl⟩ := hp
                      refine lv_istore_n (lv' := [(1, .int p16.1), (0, .ref (ad 137))]) cx.1 cx.2.1 dX12_atom_150 rfl hl (by decide) rfl (fun ls hl => ?_)
                      refine lv_goto (tgt := 192) cx.1 cx.2.1 dX12_atom_151 (by decide) ?_
                      refine lv_iload_n cx.1 cx.2.1 dX12_atom_192 rfl (lv_at hl 0 rfl) ?_
                      exact hp_iret cx hw (md_ret h) dX12_atom_193
                  · have h := md_in c127 h
                    exact J130 p8.2 _ _ _ h hw (lv_sub hl [0] rfl)
              · have h := md_in c104 h
                refine lv_aload_n cx.1 cx.2.1 dX12_atom_107 rfl (lv_at hl 0 rfl) ?_
                obtain ⟨p17, e_p17, h⟩ := md_ob h
                refine hp_callVi (As := []) (rest := []) cx hw (ih18 _ p6.2  p17 e_p17) (cwV 0 cx.2.2.2.2.2.1 (md_giV mm_281 mm_282 mm_283 mm_5 mm_284) rfl rfl rfl hd_X12_fun ⟨by dsimp only; omega, by dsimp only; omega⟩) md_at0 rfl rfl hl.1 rfl (Nat.le_of_ble_eq_true rfl) dX12_atom_108 ⟨Nat.le_refl _, Nat.le_refl _⟩ (fun r u H locs hp hw => ?_)
                obtain ⟨rfl, rfl⟩ := hp
                exact hp_iret cx hw (md_ret h) dX12_atom_111
            · have h := md_in c90 h
              refine lv_aload_n cx.1 cx.2.1 dX12_atom_93 rfl (lv_at hl 0 rfl) ?_
              obtain ⟨p18, e_p18, h⟩ := md_ob h
              refine hp_callVi (As := []) (rest := []) cx hw (km_X12_newAtom l D cA E _ ad hj hE n p5.2  p18 e_p18) (cwV 0 cx.2.2.2.2.2.1 (md_giV mm_285 mm_286 mm_287 mm_5 mm_288) rfl rfl rfl hd_X12_newAtom ⟨by dsimp only; omega, by dsimp only; omega⟩) md_at0 rfl rfl hl.1 rfl (Nat.le_of_ble_eq_true rfl) dX12_atom_94 ⟨Nat.le_refl _, Nat.le_refl _⟩ (fun r u H locs hp hw => ?_)
              obtain ⟨rfl, rfl⟩ := hp
              exact hp_iret cx hw (md_ret h) dX12_atom_97
          · have h := md_in c72 h
            refine lv_aload_n cx.1 cx.2.1 dX12_atom_75 rfl (lv_at hl 0 rfl) ?_
            refine lv_bipush (v := 27) cx.1 cx.2.1 dX12_atom_76 (by decide) ?_
            refine lv_iconst (v := 0) cx.1 cx.2.1 dX12_atom_78 (by decide) ?_
            refine lv_iconst (v := 0) cx.1 cx.2.1 dX12_atom_79 (by decide) ?_
            obtain ⟨p19, e_p19, h⟩ := md_ob h
            refine hp_callVi (As := [.int 27, .int 0, .int 0]) (rest := []) cx hw (km_X12_simple l D cA E _ ad hj hE n p4.2 (27 : Int32) (0 : Int32) (0 : Int32) p19 e_p19) (cwV 3 cx.2.2.2.2.2.1 (md_giV mm_271 mm_272 mm_273 mm_5 mm_274) rfl rfl rfl hd_X12_simple ⟨by dsimp only; omega, by dsimp only; omega⟩) md_at0 rfl rfl hl.1 rfl (Nat.le_of_ble_eq_true rfl) dX12_atom_80 ⟨Nat.le_refl _, Nat.le_refl _⟩ (fun r u H locs hp hw => ?_)
            obtain ⟨rfl, rfl⟩ := hp
            exact hp_iret cx hw (md_ret h) dX12_atom_83
        · have h := md_in c58 h
          refine lv_aload_n cx.1 cx.2.1 dX12_atom_61 rfl (lv_at hl 0 rfl) ?_
          obtain ⟨p20, e_p20, h⟩ := md_ob h
          refine hp_callVi (As := []) (rest := []) cx hw (km_X12_selfAtom l D cA E _ ad hj hE n p3.2  p20 e_p20) (cwV 0 cx.2.2.2.2.2.1 (md_giV mm_289 mm_290 mm_291 mm_5 mm_292) rfl rfl rfl hd_X12_selfAtom ⟨by dsimp only; omega, by dsimp only; omega⟩) md_at0 rfl rfl hl.1 rfl (Nat.le_of_ble_eq_true rfl) dX12_atom_62 ⟨Nat.le_refl _, Nat.le_refl _⟩ (fun r u H locs hp hw => ?_)
          obtain ⟨rfl, rfl⟩ := hp
          exact hp_iret cx hw (md_ret h) dX12_atom_65
      · have h := md_in c41 h
        refine lv_aload_n cx.1 cx.2.1 dX12_atom_44 rfl (lv_at hl 0 rfl) ?_
        refine lv_iconst (v := 1) cx.1 cx.2.1 dX12_atom_45 (by decide) ?_
        refine lv_iconst (v := 0) cx.1 cx.2.1 dX12_atom_46 (by decide) ?_
        refine lv_iconst (v := 0) cx.1 cx.2.1 dX12_atom_47 (by decide) ?_
        obtain ⟨p21, e_p21, h⟩ := md_ob h
        refine hp_callVi (As := [.int 1, .int 0, .int 0]) (rest := []) cx hw (km_X12_simple l D cA E _ ad hj hE n p2.2 (1 : Int32) (0 : Int32) (0 : Int32) p21 e_p21) (cwV 3 cx.2.2.2.2.2.1 (md_giV mm_271 mm_272 mm_273 mm_5 mm_274) rfl rfl rfl hd_X12_simple ⟨by dsimp only; omega, by dsimp only; omega⟩) md_at0 rfl rfl hl.1 rfl (Nat.le_of_ble_eq_true rfl) dX12_atom_48 ⟨Nat.le_refl _, Nat.le_refl _⟩ (fun r u H locs hp hw => ?_)
        obtain ⟨rfl, rfl⟩ := hp
        exact hp_iret cx hw (md_ret h) dX12_atom_51
    · have h := md_ip c27 h
      refine lv_aload_n cx.1 cx.2.1 dX12_atom_30 rfl (lv_at hl 0 rfl) ?_
      obtain ⟨p22, e_p22, h⟩ := md_ob h
      refine hp_callVi (As := []) (rest := []) cx hw (km_X12_variable l D cA E _ ad hj hE n σ0  p22 e_p22) (cwV 0 cx.2.2.2.2.2.1 (md_giV mm_293 mm_294 mm_295 mm_5 mm_296) rfl rfl rfl hd_X12_variable ⟨by dsimp only; omega, by dsimp only; omega⟩) md_at0 rfl rfl hl.1 rfl (Nat.le_of_ble_eq_true rfl) dX12_atom_31 ⟨Nat.le_refl _, Nat.le_refl _⟩ (fun r u H locs hp hw => ?_)
      obtain ⟨rfl, rfl⟩ := hp
      exact hp_iret cx hw (md_ret h) dX12_atom_34
  · have h := md_ip c5 h
    refine lv_aload_n cx.1 cx.2.1 dX12_atom_8 rfl (lv_at hl 0 rfl) ?_
    obtain ⟨p23, e_p23, h⟩ := md_ob h
    refine hp_callVi (As := []) (rest := []) cx hw (km_X12_countsPart l D cA E _ ad hj hE n σ0  p23 e_p23) (cwV 0 cx.2.2.2.2.2.1 (md_giV mm_187 mm_188 mm_189 mm_5 mm_190) rfl rfl rfl hd_X12_countsPart ⟨by dsimp only; omega, by dsimp only; omega⟩) md_at0 rfl rfl hl.1 rfl (Nat.le_of_ble_eq_true rfl) dX12_atom_9 ⟨Nat.le_refl _, Nat.le_refl _⟩ (fun r u H locs hp hw => ?_)
    obtain ⟨rfl, rfl⟩ := hp
    refine lv_if_ne (tgt := 17) cx.1 cx.2.1 dX12_atom_12 (by decide) (fun c12 => ?_) (fun c12 => ?_)
    · have h := md_in c12 h
      refine lv_aload_n cx.1 cx.2.1 dX12_atom_17 rfl (lv_at hl 0 rfl) ?_
      obtain ⟨p24, e_p24, h⟩ := md_ob h
      refine hp_callVi (As := []) (rest := []) cx hw (km_X12_simpleNumber l D cA E _ ad hj hE n p23.2  p24 e_p24) (cwV 0 cx.2.2.2.2.2.1 (md_giV mm_297 mm_298 mm_299 mm_5 mm_300) rfl rfl rfl hd_X12_simpleNumber ⟨by dsimp only; omega, by dsimp only; omega⟩) md_at0 rfl rfl hl.1 rfl (Nat.le_of_ble_eq_true rfl) dX12_atom_18 ⟨Nat.le_refl _, Nat.le_refl _⟩ (fun r u H locs hp hw => ?_)
      obtain ⟨rfl, rfl⟩ := hp
      exact hp_iret cx hw (md_ret h) dX12_atom_21
    · have h := md_ip c12 h
      refine lv_iconst (v := 0) cx.1 cx.2.1 dX12_atom_15 (by decide) ?_
      exact hp_iret cx hw (md_ret h) dX12_atom_16
set_option maxHeartbeats 4000000 in
set_option maxRecDepth 100000 in
theorem km_X12_nameOf (l : Launch) (D : va_G) (cA : Nat → ClassId) (E : hp_N) (sz : Nat) (ad : Nat → Nat) (hj : md_inj ad) (hE : md_E E) (n : Nat) (σ0 : md_S) (a1 : Int64) (p : (Int32 × md_S)) (h : f_X12_nameOf n σ0 a1 = some p) : Met l yX12_nameOf (Cond.code yX12_nameOf cX12_nameOf 4 (some .int) :: v_MOD) ({ frames := 0, cells := 0, slots := 0, locals := 0 }) (hp_Pc D vwCl (hp_Tl cA) E sz (md_pic cA ad σ0) [.ref (ad 137), .long a1]) (hp_Qi D vwCl (hp_Tl cA) sz (md_pic cA ad σ0) (fun r u => r = p.1 ∧ u = md_pic cA ad p.2)) 0 0 (hp_A (md_pic cA ad σ0) sz) := by
  refine hp_ofW (cc := cX12_nameOf) (maxL := 4) (ret := (some .int)) (by decide) rfl (Nat.le_of_ble_eq_true rfl) ?_
  intro pp ee ss mm bb mt cd ls cx hsz hw hl
  have hl : lv_has ls 4 [(0, .ref (ad 137)), (1, .long a1)] := hl
  refine lv_iconst (v := 0) cx.1 cx.2.1 dX12_nameOf_0 (by decide) ?_
  refine lv_istore_n (lv' := [(3, .int 0), (0, .ref (ad 137)), (1, .long a1)]) cx.1 cx.2.1 dX12_nameOf_1 rfl hl (by decide) rfl (fun ls hl => ?_)
  have L2 : ∀ (j : Nat) (σ : md_S) (l1 : Int64) (l3 : Int32) (q : ((Int32 × md_S) ⊕ (md_S × Int32))) (H : Heap) (locs : List Loc) (ls : Array Slot), f_X12_nameOf_L2 n l1 j σ l3 = some q → hp_w D vwCl (hp_Tl cA) E (hp_A (md_pic cA ad σ0) sz) ss H locs (md_pic cA ad σ) → lv_has ls 4 [(0, .ref (ad 137)), (1, .long l1), (3, .int l3)] → (∀ t, q = Sum.inr t → ∀ (H : Heap) (locs : List Loc) (ls : Array Slot), hp_w D vwCl (hp_Tl cA) E (hp_A (md_pic cA ad σ0) sz) ss H locs (md_pic cA ad t.1) → lv_has ls 4 [(0, .ref (ad 137)), (1, .long l1)] → W pp l ee ({ frames := 0, cells := 0, slots := 0, locals := 0 }) ss mm [.ref (ad 137), .long a1].toArray bb mt cd H locs 0 0 (MQ bb (hp_Qi D vwCl (hp_Tl cA) sz (md_pic cA ad σ0) (fun r u => r = p.1 ∧ u = md_pic cA ad p.2)) [.ref (ad 137), .long a1].toArray ss 0 0 (hp_A (md_pic cA ad σ0) sz)) (F0 mm 29 ls [])) → (∀ r, q = Sum.inl r → r = p) → W pp l ee ({ frames := 0, cells := 0, slots := 0, locals := 0 }) ss mm [.ref (ad 137), .long a1].toArray bb mt cd H locs 0 0 (MQ bb (hp_Qi D vwCl (hp_Tl cA) sz (md_pic cA ad σ0) (fun r u => r = p.1 ∧ u = md_pic cA ad p.2)) [.ref (ad 137), .long a1].toArray ss 0 0 (hp_A (md_pic cA ad σ0) sz)) (F0 mm 2 ls []) := by
    intro j
    induction j with
    | zero => intro σ l1 l3 q H locs ls h; exact nomatch h
    | succ j ih =>
      intro σ l1 l3 q H locs ls h hw hl K KR
      refine lv_iload_n cx.1 cx.2.1 dX12_nameOf_2 rfl (lv_at hl 2 rfl) ?_
      refine lv_aload_n cx.1 cx.2.1 dX12_nameOf_3 rfl (lv_at hl 0 rfl) ?_
      refine md_gI (k := 60) cx hw hin12c rfl (by decide) (List.mem_cons_of_mem _ mm_305) dX12_nameOf_4 ?_
      refine lv_icmp_ge (tgt := 29) cx.1 cx.2.1 dX12_nameOf_7 (by decide) (fun c7 => ?_) (fun c7 => ?_)
      · have h := md_ip c7 h
        exact K _ (Option.some.inj h).symm _ _ _ hw (lv_sub hl [0, 1] rfl)
      · have h := md_in c7 h
        refine lv_aload_n cx.1 cx.2.1 dX12_nameOf_10 rfl (lv_at hl 0 rfl) ?_
        refine md_gR (k := 61) cx hw hin12c (by decide) (by decide) (List.mem_cons_of_mem _ mm_142) dX12_nameOf_11 ?_
        refine lv_iload_n cx.1 cx.2.1 dX12_nameOf_14 rfl (lv_at hl 2 rfl) ?_
        obtain ⟨v1, e_v1, h⟩ := md_ob h
        refine md_lJ (k := 61) hj cx hw (by decide) rfl rfl rfl e_v1 dX12_nameOf_15 ?_
        refine lv_lload_n cx.1 cx.2.1 dX12_nameOf_16 rfl (lv_at hl 1 rfl) ?_
        refine W.lcmp cx.1 cx.2.1 dX12_nameOf_17 ?_
        refine lv_if_ne (tgt := 23) cx.1 cx.2.1 dX12_nameOf_18 (by decide) (fun c18 => ?_) (fun c18 => ?_)
        · have h := md_in c18 h
          refine lv_iinc (v := (l3 + 1)) (lv' := [(3, .int (l3 + 1)), (0, .ref (ad 137)), (1, .long l1)]) cx.1 cx.2.1 dX12_nameOf_23 hl (k := 2) rfl rfl (by decide) rfl (fun ls hl => ?_)
          refine lv_goto (tgt := 2) cx.1 cx.2.1 dX12_nameOf_26 (by decide) ?_
          exact ih σ l1 ((l3 + 1)) q _ _ _ h hw (lv_sub hl [1, 2, 0] rfl) K KR
        · have h := md_ip c18 h
          refine lv_iload_n cx.1 cx.2.1 dX12_nameOf_21 rfl (lv_at hl 2 rfl) ?_
          exact hp_iret cx hw (md_ret (congrArg some (KR _ (Option.some.inj h).symm))) dX12_nameOf_22
  obtain ⟨q2, e_q2, h⟩ := md_ob h
  refine L2 n σ0 a1 0 q2 _ _ _ e_q2 hw (lv_sub hl [1, 2, 0] rfl) (fun t2 hq2 H locs ls hw hl => ?_) (fun r hr => by subst hr; exact Option.some.inj h)
  subst hq2
  have h := md_inr h
  refine lv_aload_n cx.1 cx.2.1 dX12_nameOf_29 rfl (lv_at hl 0 rfl) ?_
  refine md_gR (k := 61) cx hw hin12c (by decide) (by decide) (List.mem_cons_of_mem _ mm_142) dX12_nameOf_30 ?_
  refine lv_aload_n cx.1 cx.2.1 dX12_nameOf_33 rfl (lv_at hl 0 rfl) ?_
  refine md_gI (k := 60) cx hw hin12c rfl (by decide) (List.mem_cons_of_mem _ mm_305) dX12_nameOf_34 ?_
  refine lv_lload_n cx.1 cx.2.1 dX12_nameOf_37 rfl (lv_at hl 1 rfl) ?_
  obtain ⟨σ3, e_σ3, h⟩ := md_ob h
  refine md_sJ (k := 61) hj cx hw (by decide) rfl rfl rfl e_σ3 dX12_nameOf_38 (fun H locs hw => ?_)
  refine lv_aload_n cx.1 cx.2.1 dX12_nameOf_39 rfl (lv_at hl 0 rfl) ?_
  refine lv_dup cx.1 cx.2.1 dX12_nameOf_40 rfl ?_
  refine md_gI (k := 60) cx hw hin12c rfl (by decide) (List.mem_cons_of_mem _ mm_305) dX12_nameOf_41 ?_
  refine lv_iconst (v := 1) cx.1 cx.2.1 dX12_nameOf_44 (by decide) ?_
  refine lv_iadd cx.1 cx.2.1 dX12_nameOf_45 ?_
  obtain ⟨σ4, e_σ4, h⟩ := md_ob h
  refine md_pI (k := 60) cx hw hin12c rfl (by decide) rfl (List.mem_cons_of_mem _ mm_305) rfl e_σ4 dX12_nameOf_46 (fun H locs hw => ?_)
  refine lv_aload_n cx.1 cx.2.1 dX12_nameOf_49 rfl (lv_at hl 0 rfl) ?_
  refine md_gI (k := 60) cx hw hin12c rfl (by decide) (List.mem_cons_of_mem _ mm_305) dX12_nameOf_50 ?_
  refine lv_iconst (v := 1) cx.1 cx.2.1 dX12_nameOf_53 (by decide) ?_
  refine lv_isub cx.1 cx.2.1 dX12_nameOf_54 ?_
  exact hp_iret cx hw (md_ret h) dX12_nameOf_55
set_option maxHeartbeats 4000000 in
set_option maxRecDepth 100000 in
theorem km_X12_dotted (l : Launch) (D : va_G) (cA : Nat → ClassId) (E : hp_N) (sz : Nat) (ad : Nat → Nat) (hj : md_inj ad) (hE : md_E E) (n d : Nat) (rec : md_R) (ih16 : ∀ (sz : Nat) (σ : md_S) (b0 : Int32) (p : Int32 × md_S), rec 16 b0 0 0 σ = some p → Met l yX12_arguments (Cond.code yX12_arguments cX12_arguments 4 (some .int) :: v_MOD) ({ frames := d + 10, cells := 0, slots := 0, locals := 25 * d + 244 }) (hp_Pc D vwCl (hp_Tl cA) E sz (md_pic cA ad σ) [.ref (ad 137), .int b0]) (hp_Qi D vwCl (hp_Tl cA) sz (md_pic cA ad σ) (fun r u => r = p.1 ∧ u = md_pic cA ad p.2)) 0 0 (hp_A (md_pic cA ad σ) sz)) (ih1 : ∀ (sz : Nat) (σ : md_S) (p : Int32 × md_S), rec 1 0 0 0 σ = some p → Met l yX12_innerPrefix (Cond.code yX12_innerPrefix cX12_innerPrefix 2 (some .int) :: v_MOD) ({ frames := d + 10, cells := 0, slots := 0, locals := 25 * d + 244 }) (hp_Pc D vwCl (hp_Tl cA) E sz (md_pic cA ad σ) [.ref (ad 137)]) (hp_Qi D vwCl (hp_Tl cA) sz (md_pic cA ad σ) (fun r u => r = p.1 ∧ u = md_pic cA ad p.2)) 0 0 (hp_A (md_pic cA ad σ) sz)) (σ0 : md_S) (a1 : Int32) (p : (Int32 × md_S)) (h : f_X12_dotted n rec σ0 a1 = some p) : Met l yX12_dotted (Cond.code yX12_dotted cX12_dotted 5 (some .int) :: v_MOD) ({ frames := (d + 1) + 10, cells := 0, slots := 0, locals := 25 * ((d + 1)) + 244 }) (hp_Pc D vwCl (hp_Tl cA) E sz (md_pic cA ad σ0) [.ref (ad 137), .int a1]) (hp_Qi D vwCl (hp_Tl cA) sz (md_pic cA ad σ0) (fun r u => r = p.1 ∧ u = md_pic cA ad p.2)) 0 0 (hp_A (md_pic cA ad σ0) sz) := by
  refine hp_ofW (cc := cX12_dotted) (maxL := 5) (ret := (some .int)) (by decide) rfl (Nat.le_of_ble_eq_true rfl) ?_
  intro pp ee ss mm bb mt cd ls cx hsz hw hl
  have hl : lv_has ls 5 [(0, .ref (ad 137)), (1, .int a1)] := hl
  have J68 : ∀ (σ : md_S) (l1 : Int32) (l2 : Int32) (l3 : Int32) (t0 : Int32) (H : Heap) (locs : List Loc) (ls : Array Slot), f_X12_dotted_J68 n rec σ l1 l2 l3 t0 = some p → hp_w D vwCl (hp_Tl cA) E (hp_A (md_pic cA ad σ0) sz) ss H locs (md_pic cA ad σ) → lv_has ls 5 [(0, .ref (ad 137)), (1, .int l1), (2, .int l2), (3, .int l3)] → W pp l ee ({ frames := (d + 1) + 10, cells := 0, slots := 0, locals := 25 * ((d + 1)) + 244 }) ss mm [.ref (ad 137), .int a1].toArray bb mt cd H locs 0 0 (MQ bb (hp_Qi D vwCl (hp_Tl cA) sz (md_pic cA ad σ0) (fun r u => r = p.1 ∧ u = md_pic cA ad p.2)) [.ref (ad 137), .int a1].toArray ss 0 0 (hp_A (md_pic cA ad σ0) sz)) (F0 mm 68 ls [.int t0, .ref (ad 137)]) := by
    intro σ l1 l2 l3 t0 H locs ls h hw hl
    refine lv_iload_n cx.1 cx.2.1 dX12_dotted_68 rfl (lv_at hl 2 rfl) ?_
    refine lv_iconst (v := 0) cx.1 cx.2.1 dX12_dotted_69 (by decide) ?_
    obtain ⟨p1, e_p1, h⟩ := md_ob h
    refine hp_callVi (As := [.int t0, .int l2, .int 0]) (rest := []) cx hw (km_X12_node l D cA E _ ad hj hE n σ t0 l2 (0 : Int32) p1 e_p1) (cwV 3 cx.2.2.2.2.2.1 (md_giV mm_191 mm_192 mm_193 mm_5 mm_194) rfl rfl rfl hd_X12_node ⟨by dsimp only; omega, by dsimp only; omega⟩) md_at0 rfl rfl hl.1 rfl (Nat.le_of_ble_eq_true rfl) dX12_dotted_70 ⟨Nat.le_refl _, Nat.le_refl _⟩ (fun r u H locs hp hw => ?_)
    obtain ⟨rfl, rfl⟩ := hp
    refine lv_istore (lv' := [(4, .int p1.1), (0, .ref (ad 137)), (1, .int l1), (2, .int l2), (3, .int l3)]) cx.1 cx.2.1 dX12_dotted_73 hl (by decide) rfl (fun ls hl => ?_)
    refine lv_aload_n cx.1 cx.2.1 dX12_dotted_75 rfl (lv_at hl 1 rfl) ?_
    refine lv_iload cx.1 cx.2.1 dX12_dotted_76 (lv_at hl 0 rfl) ?_
    refine lv_iload_n cx.1 cx.2.1 dX12_dotted_78 rfl (lv_at hl 2 rfl) ?_
    obtain ⟨p2, e_p2, h⟩ := md_ob h
    refine hp_callVv (As := [.int p1.1, .int l1]) (rest := []) cx hw (km_X12_gets l D cA E _ ad hj hE n p1.2 (p1.1) l1 p2 e_p2) (cwV 2 cx.2.2.2.2.2.1 (md_giV mm_199 mm_200 mm_201 mm_5 mm_202) rfl rfl rfl hd_X12_gets ⟨by dsimp only; omega, by dsimp only; omega⟩) md_at0 rfl rfl hl.1 rfl (Nat.le_of_ble_eq_true rfl) dX12_dotted_79 ⟨Nat.le_refl _, Nat.le_refl _⟩ (fun u H locs hp hw => ?_)
    obtain rfl := hp
    refine lv_iload_n cx.1 cx.2.1 dX12_dotted_82 rfl (lv_at hl 4 rfl) ?_
    refine lv_if_eq (tgt := 103) cx.1 cx.2.1 dX12_dotted_83 (by decide) (fun c83 => ?_) (fun c83 => ?_)
    · have h := md_ip c83 h
      refine lv_aload_n cx.1 cx.2.1 dX12_dotted_103 rfl (lv_at hl 1 rfl) ?_
      refine lv_bipush (v := 40) cx.1 cx.2.1 dX12_dotted_104 (by decide) ?_
      obtain ⟨p3, e_p3, h⟩ := md_ob h
      refine hp_callVi (As := [.int 40]) (rest := []) cx hw (km_X12_isSign l D cA E _ ad hj hE n p2.2 (40 : Int32) p3 e_p3) (cwV 1 cx.2.2.2.2.2.1 (md_giV mm_84 mm_85 mm_86 mm_5 mm_87) rfl rfl rfl hd_X12_isSign ⟨by dsimp only; omega, by dsimp only; omega⟩) md_at0 rfl rfl hl.1 rfl (Nat.le_of_ble_eq_true rfl) dX12_dotted_106 ⟨Nat.le_refl _, Nat.le_refl _⟩ (fun r u H locs hp hw => ?_)
      obtain ⟨rfl, rfl⟩ := hp
      refine lv_if_eq (tgt := 125) cx.1 cx.2.1 dX12_dotted_109 (by decide) (fun c109 => ?_) (fun c109 => ?_)
      · have h := md_ip c109 h
        refine lv_iload cx.1 cx.2.1 dX12_dotted_125 (lv_at hl 0 rfl) ?_
        exact hp_iret cx hw (md_ret h) dX12_dotted_127
      · have h := md_in c109 h
        refine lv_aload_n cx.1 cx.2.1 dX12_dotted_112 rfl (lv_at hl 1 rfl) ?_
        refine md_gR (k := 69) cx hw hin12c (by decide) (by decide) (List.mem_cons_of_mem _ mm_132) dX12_dotted_113 ?_
        refine lv_iload cx.1 cx.2.1 dX12_dotted_116 (lv_at hl 0 rfl) ?_
        refine lv_aload_n cx.1 cx.2.1 dX12_dotted_118 rfl (lv_at hl 1 rfl) ?_
        refine lv_iload cx.1 cx.2.1 dX12_dotted_119 (lv_at hl 0 rfl) ?_
        obtain ⟨p4, e_p4, h⟩ := md_ob h
        refine hp_callVi (As := [.int p1.1]) (rest := [.int p1.1, .ref (ad 69)]) cx hw (ih16 _ p3.2 (p1.1) p4 e_p4) (cwV 1 cx.2.2.2.2.2.1 (md_giV mm_310 mm_311 mm_312 mm_5 mm_313) rfl rfl rfl hd_X12_arguments ⟨by dsimp only; omega, by dsimp only; omega⟩) md_at0 rfl rfl hl.1 rfl (Nat.le_of_ble_eq_true rfl) dX12_dotted_121 ⟨Nat.le_refl _, Nat.le_refl _⟩ (fun r u H locs hp hw => ?_)
        obtain ⟨rfl, rfl⟩ := hp
        obtain ⟨σ5, e_σ5, h⟩ := md_ob h
        refine md_sI (k := 69) hj cx hw (by decide) rfl rfl rfl e_σ5 dX12_dotted_124 (fun H locs hw => ?_)
        refine lv_iload cx.1 cx.2.1 dX12_dotted_125 (lv_at hl 0 rfl) ?_
        exact hp_iret cx hw (md_ret h) dX12_dotted_127
    · have h := md_in c83 h
      refine lv_aload_n cx.1 cx.2.1 dX12_dotted_86 rfl (lv_at hl 1 rfl) ?_
      obtain ⟨p6, e_p6, h⟩ := md_ob h
      refine hp_callVv (As := []) (rest := []) cx hw (km_X12_next l D cA E _ ad hj hE n p2.2  p6 e_p6) (cwV 0 cx.2.2.2.2.2.1 (md_giV mm_92 mm_93 mm_94 mm_5 mm_95) rfl rfl rfl hd_X12_next ⟨by dsimp only; omega, by dsimp only; omega⟩) md_at0 rfl rfl hl.1 rfl (Nat.le_of_ble_eq_true rfl) dX12_dotted_87 ⟨Nat.le_refl _, Nat.le_refl _⟩ (fun u H locs hp hw => ?_)
      obtain rfl := hp
      refine lv_aload_n cx.1 cx.2.1 dX12_dotted_90 rfl (lv_at hl 1 rfl) ?_
      refine lv_iload cx.1 cx.2.1 dX12_dotted_91 (lv_at hl 0 rfl) ?_
      refine lv_aload_n cx.1 cx.2.1 dX12_dotted_93 rfl (lv_at hl 1 rfl) ?_
      obtain ⟨p7, e_p7, h⟩ := md_ob h
      refine hp_callVi (As := []) (rest := [.int p1.1, .ref (ad 137)]) cx hw (ih1 _ p6.2  p7 e_p7) (cwV 0 cx.2.2.2.2.2.1 (md_giV mm_314 mm_315 mm_316 mm_5 mm_317) rfl rfl rfl hd_X12_innerPrefix ⟨by dsimp only; omega, by dsimp only; omega⟩) md_at0 rfl rfl hl.1 rfl (Nat.le_of_ble_eq_true rfl) dX12_dotted_94 ⟨Nat.le_refl _, Nat.le_refl _⟩ (fun r u H locs hp hw => ?_)
      obtain ⟨rfl, rfl⟩ := hp
      obtain ⟨p8, e_p8, h⟩ := md_ob h
      refine hp_callVv (As := [.int p1.1, .int p7.1]) (rest := []) cx hw (km_X12_gets l D cA E _ ad hj hE n p7.2 (p1.1) (p7.1) p8 e_p8) (cwV 2 cx.2.2.2.2.2.1 (md_giV mm_199 mm_200 mm_201 mm_5 mm_202) rfl rfl rfl hd_X12_gets ⟨by dsimp only; omega, by dsimp only; omega⟩) md_at0 rfl rfl hl.1 rfl (Nat.le_of_ble_eq_true rfl) dX12_dotted_97 ⟨Nat.le_refl _, Nat.le_refl _⟩ (fun u H locs hp hw => ?_)
      obtain rfl := hp
      refine lv_goto (tgt := 125) cx.1 cx.2.1 dX12_dotted_100 (by decide) ?_
      refine lv_iload cx.1 cx.2.1 dX12_dotted_125 (lv_at hl 0 rfl) ?_
      exact hp_iret cx hw (md_ret h) dX12_dotted_127
  refine lv_aload_n cx.1 cx.2.1 dX12_dotted_0 rfl (lv_at hl 0 rfl) ?_
  obtain ⟨p9, e_p9, h⟩ := md_ob h
  refine hp_callVi (As := []) (rest := []) cx hw (km_X12_countsPart l D cA E _ ad hj hE n σ0  p9 e_p9) (cwV 0 cx.2.2.2.2.2.1 (md_giV mm_187 mm_188 mm_189 mm_5 mm_190) rfl rfl rfl hd_X12_countsPart ⟨by dsimp only; omega, by dsimp only; omega⟩) md_at0 rfl rfl hl.1 rfl (Nat.le_of_ble_eq_true rfl) dX12_dotted_1 ⟨Nat.le_refl _, Nat.le_refl _⟩ (fun r u H locs hp hw => ?_)
  obtain ⟨rfl, rfl⟩ := hp
  refine lv_if_ne (tgt := 9) cx.1 cx.2.1 dX12_dotted_4 (by decide) (fun c4 => ?_) (fun c4 => ?_)
  · have h := md_in c4 h
    refine lv_aload_n cx.1 cx.2.1 dX12_dotted_9 rfl (lv_at hl 0 rfl) ?_
    obtain ⟨p10, e_p10, h⟩ := md_ob h
    refine hp_callVv (As := []) (rest := []) cx hw (km_X12_next l D cA E _ ad hj hE n p9.2  p10 e_p10) (cwV 0 cx.2.2.2.2.2.1 (md_giV mm_92 mm_93 mm_94 mm_5 mm_95) rfl rfl rfl hd_X12_next ⟨by dsimp only; omega, by dsimp only; omega⟩) md_at0 rfl rfl hl.1 rfl (Nat.le_of_ble_eq_true rfl) dX12_dotted_10 ⟨Nat.le_refl _, Nat.le_refl _⟩ (fun u H locs hp hw => ?_)
    obtain rfl := hp
    refine lv_aload_n cx.1 cx.2.1 dX12_dotted_13 rfl (lv_at hl 0 rfl) ?_
    obtain ⟨p11, e_p11, h⟩ := md_ob h
    refine hp_callVi (As := []) (rest := []) cx hw (km_X12_isName l D cA E _ ad hj hE n p10.2  p11 e_p11) (cwV 0 cx.2.2.2.2.2.1 (md_giV mm_107 mm_108 mm_109 mm_5 mm_110) rfl rfl rfl hd_X12_isName ⟨by dsimp only; omega, by dsimp only; omega⟩) md_at0 rfl rfl hl.1 rfl (Nat.le_of_ble_eq_true rfl) dX12_dotted_14 ⟨Nat.le_refl _, Nat.le_refl _⟩ (fun r u H locs hp hw => ?_)
    obtain ⟨rfl, rfl⟩ := hp
    refine lv_if_ne (tgt := 22) cx.1 cx.2.1 dX12_dotted_17 (by decide) (fun c17 => ?_) (fun c17 => ?_)
    · have h := md_in c17 h
      refine lv_aload_n cx.1 cx.2.1 dX12_dotted_22 rfl (lv_at hl 0 rfl) ?_
      refine lv_aload_n cx.1 cx.2.1 dX12_dotted_23 rfl (lv_at hl 0 rfl) ?_
      refine md_gJ (k := 12) cx hw hin12c rfl (by decide) (List.mem_cons_of_mem _ mm_41) dX12_dotted_24 ?_
      obtain ⟨p12, e_p12, h⟩ := md_ob h
      refine hp_callVi (As := [.long (mJ p11.2 12)]) (rest := []) cx hw (km_X12_nameOf l D cA E _ ad hj hE n p11.2 ((mJ p11.2 12)) p12 e_p12) (cwV 1 cx.2.2.2.2.2.1 (md_giV mm_306 mm_307 mm_308 mm_5 mm_309) rfl rfl rfl hd_X12_nameOf ⟨by dsimp only; omega, by dsimp only; omega⟩) md_at0 rfl rfl hl.1 rfl (Nat.le_of_ble_eq_true rfl) dX12_dotted_27 ⟨Nat.le_refl _, Nat.le_refl _⟩ (fun r u H locs hp hw => ?_)
      obtain ⟨rfl, rfl⟩ := hp
      refine lv_istore_n (lv' := [(2, .int p12.1), (0, .ref (ad 137)), (1, .int a1)]) cx.1 cx.2.1 dX12_dotted_30 rfl hl (by decide) rfl (fun ls hl => ?_)
      refine lv_aload_n cx.1 cx.2.1 dX12_dotted_31 rfl (lv_at hl 1 rfl) ?_
      obtain ⟨p13, e_p13, h⟩ := md_ob h
      refine hp_callVv (As := []) (rest := []) cx hw (km_X12_next l D cA E _ ad hj hE n p12.2  p13 e_p13) (cwV 0 cx.2.2.2.2.2.1 (md_giV mm_92 mm_93 mm_94 mm_5 mm_95) rfl rfl rfl hd_X12_next ⟨by dsimp only; omega, by dsimp only; omega⟩) md_at0 rfl rfl hl.1 rfl (Nat.le_of_ble_eq_true rfl) dX12_dotted_32 ⟨Nat.le_refl _, Nat.le_refl _⟩ (fun u H locs hp hw => ?_)
      obtain rfl := hp
      refine lv_aload_n cx.1 cx.2.1 dX12_dotted_35 rfl (lv_at hl 1 rfl) ?_
      refine lv_sipush (v := 256) cx.1 cx.2.1 dX12_dotted_36 (by decide) ?_
      obtain ⟨p14, e_p14, h⟩ := md_ob h
      refine hp_callVi (As := [.int 256]) (rest := []) cx hw (km_X12_isSign l D cA E _ ad hj hE n p13.2 (256 : Int32) p14 e_p14) (cwV 1 cx.2.2.2.2.2.1 (md_giV mm_84 mm_85 mm_86 mm_5 mm_87) rfl rfl rfl hd_X12_isSign ⟨by dsimp only; omega, by dsimp only; omega⟩) md_at0 rfl rfl hl.1 rfl (Nat.le_of_ble_eq_true rfl) dX12_dotted_39 ⟨Nat.le_refl _, Nat.le_refl _⟩ (fun r u H locs hp hw => ?_)
      obtain ⟨rfl, rfl⟩ := hp
      refine lv_istore_n (lv' := [(3, .int p14.1), (2, .int p12.1), (0, .ref (ad 137)), (1, .int a1)]) cx.1 cx.2.1 dX12_dotted_42 rfl hl (by decide) rfl (fun ls hl => ?_)
      refine lv_aload_n cx.1 cx.2.1 dX12_dotted_43 rfl (lv_at hl 2 rfl) ?_
      refine lv_iload_n cx.1 cx.2.1 dX12_dotted_44 rfl (lv_at hl 0 rfl) ?_
      refine lv_if_eq (tgt := 53) cx.1 cx.2.1 dX12_dotted_45 (by decide) (fun c45 => ?_) (fun c45 => ?_)
      · have h := md_ip c45 h
        refine lv_aload_n cx.1 cx.2.1 dX12_dotted_53 rfl (lv_at hl 2 rfl) ?_
        refine lv_bipush (v := 40) cx.1 cx.2.1 dX12_dotted_54 (by decide) ?_
        obtain ⟨p15, e_p15, h⟩ := md_ob h
        refine hp_callVi (As := [.int 40]) (rest := [.ref (ad 137)]) cx hw (km_X12_isSign l D cA E _ ad hj hE n p14.2 (40 : Int32) p15 e_p15) (cwV 1 cx.2.2.2.2.2.1 (md_giV mm_84 mm_85 mm_86 mm_5 mm_87) rfl rfl rfl hd_X12_isSign ⟨by dsimp only; omega, by dsimp only; omega⟩) md_at0 rfl rfl hl.1 rfl (Nat.le_of_ble_eq_true rfl) dX12_dotted_56 ⟨Nat.le_refl _, Nat.le_refl _⟩ (fun r u H locs hp hw => ?_)
        obtain ⟨rfl, rfl⟩ := hp
        refine lv_if_eq (tgt := 67) cx.1 cx.2.1 dX12_dotted_59 (by decide) (fun c59 => ?_) (fun c59 => ?_)
        · have h := md_ip c59 h
          refine lv_iconst (v := 5) cx.1 cx.2.1 dX12_dotted_67 (by decide) ?_
          exact J68 p15.2 a1 (p12.1) (p14.1) 5 _ _ _ h hw (lv_sub hl [2, 3, 1, 0] rfl)
        · have h := md_in c59 h
          refine lv_bipush (v := 7) cx.1 cx.2.1 dX12_dotted_62 (by decide) ?_
          refine lv_goto (tgt := 68) cx.1 cx.2.1 dX12_dotted_64 (by decide) ?_
          exact J68 p15.2 a1 (p12.1) (p14.1) 7 _ _ _ h hw (lv_sub hl [2, 3, 1, 0] rfl)
      · have h := md_in c45 h
        refine lv_bipush (v := 6) cx.1 cx.2.1 dX12_dotted_48 (by decide) ?_
        refine lv_goto (tgt := 68) cx.1 cx.2.1 dX12_dotted_50 (by decide) ?_
        exact J68 p14.2 a1 (p12.1) (p14.1) 6 _ _ _ h hw (lv_sub hl [2, 3, 1, 0] rfl)
    · have h := md_ip c17 h
      refine lv_iload_n cx.1 cx.2.1 dX12_dotted_20 rfl (lv_at hl 1 rfl) ?_
      exact hp_iret cx hw (md_ret h) dX12_dotted_21
  · have h := md_ip c4 h
    refine lv_iload_n cx.1 cx.2.1 dX12_dotted_7 rfl (lv_at hl 1 rfl) ?_
    exact hp_iret cx hw (md_ret h) dX12_dotted_8
