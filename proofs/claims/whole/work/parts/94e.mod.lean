set_option maxHeartbeats 4000000 in
set_option maxRecDepth 100000 in
theorem km_X12_postfix (l : Launch) (D : va_G) (cA : Nat → ClassId) (E : hp_N) (sz : Nat) (ad : Nat → Nat) (hj : md_inj ad) (hE : md_E E) (n d : Nat) (rec : md_R) (ih16 : ∀ (sz : Nat) (σ : md_S) (b0 : Int32) (p : Int32 × md_S), rec 16 b0 0 0 σ = some p → Met l yX12_arguments (Cond.code yX12_arguments cX12_arguments 4 (some .int) :: v_MOD) ({ frames := d + 10, cells := 0, slots := 0, locals := 25 * d + 244 }) (hp_Pc D vwCl (hp_Tl cA) E sz (md_pic cA ad σ) [.ref (ad 137), .int b0]) (hp_Qi D vwCl (hp_Tl cA) sz (md_pic cA ad σ) (fun r u => r = p.1 ∧ u = md_pic cA ad p.2)) 0 0 (hp_A (md_pic cA ad σ) sz)) (ih17 : ∀ (sz : Nat) (σ : md_S) (p : Int32 × md_S), rec 17 0 0 0 σ = some p → Met l yX12_atom (Cond.code yX12_atom cX12_atom 2 (some .int) :: v_MOD) ({ frames := d + 10, cells := 0, slots := 0, locals := 25 * d + 244 }) (hp_Pc D vwCl (hp_Tl cA) E sz (md_pic cA ad σ) [.ref (ad 137)]) (hp_Qi D vwCl (hp_Tl cA) sz (md_pic cA ad σ) (fun r u => r = p.1 ∧ u = md_pic cA ad p.2)) 0 0 (hp_A (md_pic cA ad σ) sz)) (ih15 : ∀ (sz : Nat) (σ : md_S) (b0 : Int32) (p : Int32 × md_S), rec 15 b0 0 0 σ = some p → Met l yX12_dotted (Cond.code yX12_dotted cX12_dotted 5 (some .int) :: v_MOD) ({ frames := d + 10, cells := 0, slots := 0, locals := 25 * d + 244 }) (hp_Pc D vwCl (hp_Tl cA) E sz (md_pic cA ad σ) [.ref (ad 137), .int b0]) (hp_Qi D vwCl (hp_Tl cA) sz (md_pic cA ad σ) (fun r u => r = p.1 ∧ u = md_pic cA ad p.2)) 0 0 (hp_A (md_pic cA ad σ) sz)) (σ0 : md_S) (p : (Int32 × md_S)) (h : f_X12_postfix n rec σ0 = some p) : Met l yX12_postfix (Cond.code yX12_postfix cX12_postfix 4 (some .int) :: v_MOD) ({ frames := (d + 1) + 10, cells := 0, slots := 0, locals := 25 * ((d + 1)) + 244 }) (hp_Pc D vwCl (hp_Tl cA) E sz (md_pic cA ad σ0) [.ref (ad 137)]) (hp_Qi D vwCl (hp_Tl cA) sz (md_pic cA ad σ0) (fun r u => r = p.1 ∧ u = md_pic cA ad p.2)) 0 0 (hp_A (md_pic cA ad σ0) sz) := by
  refine hp_ofW (cc := cX12_postfix) (maxL := 4) (ret := (some .int)) (by decide) rfl (Nat.le_of_ble_eq_true rfl) ?_
  intro pp ee ss mm bb mt cd ls cx hsz hw hl
  have hl : lv_has ls 4 [(0, .ref (ad 137))] := hl
  refine lv_aload_n cx.1 cx.2.1 dX12_postfix_0 rfl (lv_at hl 0 rfl) ?_
  obtain ⟨p1, e_p1, h⟩ := md_ob h
  refine hp_callVi (As := []) (rest := []) cx hw (ih17 _ σ0  p1 e_p1) (cwV 0 cx.2.2.2.2.2.1 (md_giV mm_318 mm_319 mm_320 mm_5 mm_321) rfl rfl rfl hd_X12_atom ⟨by dsimp only; omega, by dsimp only; omega⟩) md_at0 rfl rfl hl.1 rfl (Nat.le_of_ble_eq_true rfl) dX12_postfix_1 ⟨Nat.le_refl _, Nat.le_refl _⟩ (fun r u H locs hp hw => ?_)
  obtain ⟨rfl, rfl⟩ := hp
  refine lv_istore_n (lv' := [(1, .int p1.1), (0, .ref (ad 137))]) cx.1 cx.2.1 dX12_postfix_4 rfl hl (by decide) rfl (fun ls hl => ?_)
  refine lv_iconst (v := 1) cx.1 cx.2.1 dX12_postfix_5 (by decide) ?_
  refine lv_istore_n (lv' := [(2, .int 1), (1, .int p1.1), (0, .ref (ad 137))]) cx.1 cx.2.1 dX12_postfix_6 rfl hl (by decide) rfl (fun ls hl => ?_)
  have L7 : ∀ (j : Nat) (σ : md_S) (l1 : Int32) (l2 : Int32) (q : ((Int32 × md_S) ⊕ (md_S × Int32 × Int32))) (H : Heap) (locs : List Loc) (ls : Array Slot), f_X12_postfix_L7 n rec j σ l1 l2 = some q → hp_w D vwCl (hp_Tl cA) E (hp_A (md_pic cA ad σ0) sz) ss H locs (md_pic cA ad σ) → lv_has ls 4 [(0, .ref (ad 137)), (1, .int l1), (2, .int l2)] → (∀ t, q = Sum.inr t → ∀ (H : Heap) (locs : List Loc) (ls : Array Slot), hp_w D vwCl (hp_Tl cA) E (hp_A (md_pic cA ad σ0) sz) ss H locs (md_pic cA ad t.1) → lv_has ls 4 [(1, .int t.2.1)] → W pp l ee ({ frames := (d + 1) + 10, cells := 0, slots := 0, locals := 25 * ((d + 1)) + 244 }) ss mm [.ref (ad 137)].toArray bb mt cd H locs 0 0 (MQ bb (hp_Qi D vwCl (hp_Tl cA) sz (md_pic cA ad σ0) (fun r u => r = p.1 ∧ u = md_pic cA ad p.2)) [.ref (ad 137)].toArray ss 0 0 (hp_A (md_pic cA ad σ0) sz)) (F0 mm 114 ls [])) → (∀ r, q = Sum.inl r → r = p) → W pp l ee ({ frames := (d + 1) + 10, cells := 0, slots := 0, locals := 25 * ((d + 1)) + 244 }) ss mm [.ref (ad 137)].toArray bb mt cd H locs 0 0 (MQ bb (hp_Qi D vwCl (hp_Tl cA) sz (md_pic cA ad σ0) (fun r u => r = p.1 ∧ u = md_pic cA ad p.2)) [.ref (ad 137)].toArray ss 0 0 (hp_A (md_pic cA ad σ0) sz)) (F0 mm 7 ls []) := by
    intro j
    induction j with
    | zero => intro σ l1 l2 q H locs ls h; exact nomatch h
    | succ j ih =>
      intro σ l1 l2 q H locs ls h hw hl K KR
      have J105 : ∀ (σ : md_S) (l1 : Int32) (t0 : Int32) (H : Heap) (locs : List Loc) (ls : Array Slot), f_X12_postfix_J105 n rec (f_X12_postfix_L7 n rec j) σ l1 t0 = some q → hp_w D vwCl (hp_Tl cA) E (hp_A (md_pic cA ad σ0) sz) ss H locs (md_pic cA ad σ) → lv_has ls 4 [(0, .ref (ad 137)), (1, .int l1)] → W pp l ee ({ frames := (d + 1) + 10, cells := 0, slots := 0, locals := 25 * ((d + 1)) + 244 }) ss mm [.ref (ad 137)].toArray bb mt cd H locs 0 0 (MQ bb (hp_Qi D vwCl (hp_Tl cA) sz (md_pic cA ad σ0) (fun r u => r = p.1 ∧ u = md_pic cA ad p.2)) [.ref (ad 137)].toArray ss 0 0 (hp_A (md_pic cA ad σ0) sz)) (F0 mm 105 ls [.int t0]) := by
        intro σ l1 t0 H locs ls h hw hl
        refine lv_istore_n (lv' := [(2, .int t0), (0, .ref (ad 137)), (1, .int l1)]) cx.1 cx.2.1 dX12_postfix_105 rfl hl (by decide) rfl (fun ls hl => ?_)
        refine lv_goto (tgt := 7) cx.1 cx.2.1 dX12_postfix_106 (by decide) ?_
        exact ih σ l1 t0 q _ _ _ h hw (lv_sub hl [1, 2, 0] rfl) K KR
      have J104 : ∀ (σ : md_S) (l1 : Int32) (H : Heap) (locs : List Loc) (ls : Array Slot), f_X12_postfix_J104 n rec (f_X12_postfix_L7 n rec j) σ l1 = some q → hp_w D vwCl (hp_Tl cA) E (hp_A (md_pic cA ad σ0) sz) ss H locs (md_pic cA ad σ) → lv_has ls 4 [(0, .ref (ad 137)), (1, .int l1)] → W pp l ee ({ frames := (d + 1) + 10, cells := 0, slots := 0, locals := 25 * ((d + 1)) + 244 }) ss mm [.ref (ad 137)].toArray bb mt cd H locs 0 0 (MQ bb (hp_Qi D vwCl (hp_Tl cA) sz (md_pic cA ad σ0) (fun r u => r = p.1 ∧ u = md_pic cA ad p.2)) [.ref (ad 137)].toArray ss 0 0 (hp_A (md_pic cA ad σ0) sz)) (F0 mm 104 ls []) := by
        intro σ l1 H locs ls h hw hl
        refine lv_iconst (v := 0) cx.1 cx.2.1 dX12_postfix_104 (by decide) ?_
        exact J105 σ l1 0 _ _ _ h hw (lv_sub hl [0, 1] rfl)
      refine lv_iload_n cx.1 cx.2.1 dX12_postfix_7 rfl (lv_at hl 2 rfl) ?_
      refine lv_if_eq (tgt := 114) cx.1 cx.2.1 dX12_postfix_8 (by decide) (fun c8 => ?_) (fun c8 => ?_)
      · have h := md_ip c8 h
        exact K _ (Option.some.inj h).symm _ _ _ hw (lv_sub hl [1] rfl)
      · have h := md_in c8 h
        refine lv_aload_n cx.1 cx.2.1 dX12_postfix_11 rfl (lv_at hl 0 rfl) ?_
        obtain ⟨p2, e_p2, h⟩ := md_ob h
        refine hp_callVi (As := []) (rest := []) cx hw (km_X12_isFine l D cA E _ ad hj hE n σ  p2 e_p2) (cwV 0 cx.2.2.2.2.2.1 (md_giV mm_64 mm_65 mm_66 mm_5 mm_67) rfl rfl rfl hd_X12_isFine ⟨by dsimp only; omega, by dsimp only; omega⟩) md_at0 rfl rfl hl.1 rfl (Nat.le_of_ble_eq_true rfl) dX12_postfix_12 ⟨Nat.le_refl _, Nat.le_refl _⟩ (fun r u H locs hp hw => ?_)
        obtain ⟨rfl, rfl⟩ := hp
        refine lv_if_eq (tgt := 114) cx.1 cx.2.1 dX12_postfix_15 (by decide) (fun c15 => ?_) (fun c15 => ?_)
        · have h := md_ip c15 h
          exact K _ (Option.some.inj h).symm _ _ _ hw (lv_sub hl [1] rfl)
        · have h := md_in c15 h
          refine lv_aload_n cx.1 cx.2.1 dX12_postfix_18 rfl (lv_at hl 0 rfl) ?_
          refine lv_bipush (v := 40) cx.1 cx.2.1 dX12_postfix_19 (by decide) ?_
          obtain ⟨p3, e_p3, h⟩ := md_ob h
          refine hp_callVi (As := [.int 40]) (rest := []) cx hw (km_X12_isSign l D cA E _ ad hj hE n p2.2 (40 : Int32) p3 e_p3) (cwV 1 cx.2.2.2.2.2.1 (md_giV mm_84 mm_85 mm_86 mm_5 mm_87) rfl rfl rfl hd_X12_isSign ⟨by dsimp only; omega, by dsimp only; omega⟩) md_at0 rfl rfl hl.1 rfl (Nat.le_of_ble_eq_true rfl) dX12_postfix_21 ⟨Nat.le_refl _, Nat.le_refl _⟩ (fun r u H locs hp hw => ?_)
          obtain ⟨rfl, rfl⟩ := hp
          refine lv_if_eq (tgt := 67) cx.1 cx.2.1 dX12_postfix_24 (by decide) (fun c24 => ?_) (fun c24 => ?_)
          · have h := md_ip c24 h
            refine lv_aload_n cx.1 cx.2.1 dX12_postfix_67 rfl (lv_at hl 0 rfl) ?_
            refine lv_bipush (v := 46) cx.1 cx.2.1 dX12_postfix_68 (by decide) ?_
            obtain ⟨p4, e_p4, h⟩ := md_ob h
            refine hp_callVi (As := [.int 46]) (rest := []) cx hw (km_X12_isSign l D cA E _ ad hj hE n p3.2 (46 : Int32) p4 e_p4) (cwV 1 cx.2.2.2.2.2.1 (md_giV mm_84 mm_85 mm_86 mm_5 mm_87) rfl rfl rfl hd_X12_isSign ⟨by dsimp only; omega, by dsimp only; omega⟩) md_at0 rfl rfl hl.1 rfl (Nat.le_of_ble_eq_true rfl) dX12_postfix_70 ⟨Nat.le_refl _, Nat.le_refl _⟩ (fun r u H locs hp hw => ?_)
            obtain ⟨rfl, rfl⟩ := hp
            refine lv_if_eq (tgt := 109) cx.1 cx.2.1 dX12_postfix_73 (by decide) (fun c73 => ?_) (fun c73 => ?_)
            · have h := md_ip c73 h
              refine lv_iconst (v := 0) cx.1 cx.2.1 dX12_postfix_109 (by decide) ?_
              refine lv_istore_n (lv' := [(2, .int 0), (0, .ref (ad 137)), (1, .int l1)]) cx.1 cx.2.1 dX12_postfix_110 rfl hl (by decide) rfl (fun ls hl => ?_)
              refine lv_goto (tgt := 7) cx.1 cx.2.1 dX12_postfix_111 (by decide) ?_
              exact ih p4.2 l1 0 q _ _ _ h hw (lv_sub hl [1, 2, 0] rfl) K KR
            · have h := md_in c73 h
              refine lv_aload_n cx.1 cx.2.1 dX12_postfix_76 rfl (lv_at hl 0 rfl) ?_
              refine lv_iload_n cx.1 cx.2.1 dX12_postfix_77 rfl (lv_at hl 1 rfl) ?_
              obtain ⟨p5, e_p5, h⟩ := md_ob h
              refine hp_callVi (As := [.int l1]) (rest := []) cx hw (ih15 _ p4.2 l1 p5 e_p5) (cwV 1 cx.2.2.2.2.2.1 (md_giV mm_322 mm_323 mm_324 mm_5 mm_325) rfl rfl rfl hd_X12_dotted ⟨by dsimp only; omega, by dsimp only; omega⟩) md_at0 rfl rfl hl.1 rfl (Nat.le_of_ble_eq_true rfl) dX12_postfix_78 ⟨Nat.le_refl _, Nat.le_refl _⟩ (fun r u H locs hp hw => ?_)
              obtain ⟨rfl, rfl⟩ := hp
              refine lv_istore_n (lv' := [(1, .int p5.1), (0, .ref (ad 137)), (2, .int l2)]) cx.1 cx.2.1 dX12_postfix_81 rfl hl (by decide) rfl (fun ls hl => ?_)
              refine lv_aload_n cx.1 cx.2.1 dX12_postfix_82 rfl (lv_at hl 1 rfl) ?_
              obtain ⟨p6, e_p6, h⟩ := md_ob h
              refine hp_callVi (As := []) (rest := []) cx hw (km_X12_isFine l D cA E _ ad hj hE n p5.2  p6 e_p6) (cwV 0 cx.2.2.2.2.2.1 (md_giV mm_64 mm_65 mm_66 mm_5 mm_67) rfl rfl rfl hd_X12_isFine ⟨by dsimp only; omega, by dsimp only; omega⟩) md_at0 rfl rfl hl.1 rfl (Nat.le_of_ble_eq_true rfl) dX12_postfix_83 ⟨Nat.le_refl _, Nat.le_refl _⟩ (fun r u H locs hp hw => ?_)
              obtain ⟨rfl, rfl⟩ := hp
              refine lv_if_eq (tgt := 104) cx.1 cx.2.1 dX12_postfix_86 (by decide) (fun c86 => ?_) (fun c86 => ?_)
              · have h := md_ip c86 h
                exact J104 p6.2 (p5.1) _ _ _ h hw (lv_sub hl [1, 0] rfl)
              · have h := md_in c86 h
                refine lv_aload_n cx.1 cx.2.1 dX12_postfix_89 rfl (lv_at hl 1 rfl) ?_
                refine md_gR (k := 66) cx hw hin12c (by decide) (by decide) (List.mem_cons_of_mem _ mm_128) dX12_postfix_90 ?_
                refine lv_iload_n cx.1 cx.2.1 dX12_postfix_93 rfl (lv_at hl 0 rfl) ?_
                obtain ⟨v7, e_v7, h⟩ := md_ob h
                refine md_lI (k := 66) hj cx hw (by decide) rfl rfl rfl e_v7 dX12_postfix_94 ?_
                refine lv_bipush (v := 6) cx.1 cx.2.1 dX12_postfix_95 (by decide) ?_
                refine lv_icmp_eq (tgt := 104) cx.1 cx.2.1 dX12_postfix_97 (by decide) (fun c97 => ?_) (fun c97 => ?_)
                · have h := md_ip c97 h
                  exact J104 p6.2 (p5.1) _ _ _ h hw (lv_sub hl [1, 0] rfl)
                · have h := md_in c97 h
                  refine lv_iconst (v := 1) cx.1 cx.2.1 dX12_postfix_100 (by decide) ?_
                  refine lv_goto (tgt := 105) cx.1 cx.2.1 dX12_postfix_101 (by decide) ?_
                  exact J105 p6.2 (p5.1) 1 _ _ _ h hw (lv_sub hl [1, 0] rfl)
          · have h := md_in c24 h
            refine lv_aload_n cx.1 cx.2.1 dX12_postfix_27 rfl (lv_at hl 0 rfl) ?_
            obtain ⟨p8, e_p8, h⟩ := md_ob h
            refine hp_callVi (As := []) (rest := []) cx hw (km_X12_countsPart l D cA E _ ad hj hE n p3.2  p8 e_p8) (cwV 0 cx.2.2.2.2.2.1 (md_giV mm_187 mm_188 mm_189 mm_5 mm_190) rfl rfl rfl hd_X12_countsPart ⟨by dsimp only; omega, by dsimp only; omega⟩) md_at0 rfl rfl hl.1 rfl (Nat.le_of_ble_eq_true rfl) dX12_postfix_28 ⟨Nat.le_refl _, Nat.le_refl _⟩ (fun r u H locs hp hw => ?_)
            obtain ⟨rfl, rfl⟩ := hp
            refine lv_if_ne (tgt := 36) cx.1 cx.2.1 dX12_postfix_31 (by decide) (fun c31 => ?_) (fun c31 => ?_)
            · have h := md_in c31 h
              refine lv_aload_n cx.1 cx.2.1 dX12_postfix_36 rfl (lv_at hl 0 rfl) ?_
              refine lv_bipush (v := 8) cx.1 cx.2.1 dX12_postfix_37 (by decide) ?_
              refine lv_iconst (v := 0) cx.1 cx.2.1 dX12_postfix_39 (by decide) ?_
              refine lv_iconst (v := 0) cx.1 cx.2.1 dX12_postfix_40 (by decide) ?_
              obtain ⟨p9, e_p9, h⟩ := md_ob h
              refine hp_callVi (As := [.int 8, .int 0, .int 0]) (rest := []) cx hw (km_X12_node l D cA E _ ad hj hE n p8.2 (8 : Int32) (0 : Int32) (0 : Int32) p9 e_p9) (cwV 3 cx.2.2.2.2.2.1 (md_giV mm_191 mm_192 mm_193 mm_5 mm_194) rfl rfl rfl hd_X12_node ⟨by dsimp only; omega, by dsimp only; omega⟩) md_at0 rfl rfl hl.1 rfl (Nat.le_of_ble_eq_true rfl) dX12_postfix_41 ⟨Nat.le_refl _, Nat.le_refl _⟩ (fun r u H locs hp hw => ?_)
              obtain ⟨rfl, rfl⟩ := hp
              refine lv_istore_n (lv' := [(3, .int p9.1), (0, .ref (ad 137)), (1, .int l1), (2, .int l2)]) cx.1 cx.2.1 dX12_postfix_44 rfl hl (by decide) rfl (fun ls hl => ?_)
              refine lv_aload_n cx.1 cx.2.1 dX12_postfix_45 rfl (lv_at hl 1 rfl) ?_
              refine lv_iload_n cx.1 cx.2.1 dX12_postfix_46 rfl (lv_at hl 0 rfl) ?_
              refine lv_iload_n cx.1 cx.2.1 dX12_postfix_47 rfl (lv_at hl 2 rfl) ?_
              obtain ⟨p10, e_p10, h⟩ := md_ob h
              refine hp_callVv (As := [.int p9.1, .int l1]) (rest := []) cx hw (km_X12_gets l D cA E _ ad hj hE n p9.2 (p9.1) l1 p10 e_p10) (cwV 2 cx.2.2.2.2.2.1 (md_giV mm_199 mm_200 mm_201 mm_5 mm_202) rfl rfl rfl hd_X12_gets ⟨by dsimp only; omega, by dsimp only; omega⟩) md_at0 rfl rfl hl.1 rfl (Nat.le_of_ble_eq_true rfl) dX12_postfix_48 ⟨Nat.le_refl _, Nat.le_refl _⟩ (fun u H locs hp hw => ?_)
              obtain rfl := hp
              refine lv_aload_n cx.1 cx.2.1 dX12_postfix_51 rfl (lv_at hl 1 rfl) ?_
              refine md_gR (k := 68) cx hw hin12c (by decide) (by decide) (List.mem_cons_of_mem _ mm_131) dX12_postfix_52 ?_
              refine lv_iload_n cx.1 cx.2.1 dX12_postfix_55 rfl (lv_at hl 0 rfl) ?_
              refine lv_aload_n cx.1 cx.2.1 dX12_postfix_56 rfl (lv_at hl 1 rfl) ?_
              refine lv_iload_n cx.1 cx.2.1 dX12_postfix_57 rfl (lv_at hl 0 rfl) ?_
              obtain ⟨p11, e_p11, h⟩ := md_ob h
              refine hp_callVi (As := [.int p9.1]) (rest := [.int p9.1, .ref (ad 68)]) cx hw (ih16 _ p10.2 (p9.1) p11 e_p11) (cwV 1 cx.2.2.2.2.2.1 (md_giV mm_310 mm_311 mm_312 mm_5 mm_313) rfl rfl rfl hd_X12_arguments ⟨by dsimp only; omega, by dsimp only; omega⟩) md_at0 rfl rfl hl.1 rfl (Nat.le_of_ble_eq_true rfl) dX12_postfix_58 ⟨Nat.le_refl _, Nat.le_refl _⟩ (fun r u H locs hp hw => ?_)
              obtain ⟨rfl, rfl⟩ := hp
              obtain ⟨σ12, e_σ12, h⟩ := md_ob h
              refine md_sI (k := 68) hj cx hw (by decide) rfl rfl rfl e_σ12 dX12_postfix_61 (fun H locs hw => ?_)
              refine lv_iload_n cx.1 cx.2.1 dX12_postfix_62 rfl (lv_at hl 0 rfl) ?_
              refine lv_istore_n (lv' := [(1, .int p9.1), (3, .int p9.1), (0, .ref (ad 137)), (2, .int l2)]) cx.1 cx.2.1 dX12_postfix_63 rfl hl (by decide) rfl (fun ls hl => ?_)
              refine lv_goto (tgt := 7) cx.1 cx.2.1 dX12_postfix_64 (by decide) ?_
              exact ih σ12 (p9.1) l2 q _ _ _ h hw (lv_sub hl [2, 0, 3] rfl) K KR
            · have h := md_ip c31 h
              refine lv_iload_n cx.1 cx.2.1 dX12_postfix_34 rfl (lv_at hl 1 rfl) ?_
              exact hp_iret cx hw (md_ret (congrArg some (KR _ (Option.some.inj h).symm))) dX12_postfix_35
  obtain ⟨q13, e_q13, h⟩ := md_ob h
  refine L7 n p1.2 (p1.1) 1 q13 _ _ _ e_q13 hw (lv_sub hl [2, 1, 0] rfl) (fun t13 hq13 H locs ls hw hl => ?_) (fun r hr => by subst hr; exact Option.some.inj h)
  subst hq13
  have h := md_inr h
  refine lv_iload_n cx.1 cx.2.1 dX12_postfix_114 rfl (lv_at hl 0 rfl) ?_
  exact hp_iret cx hw (md_ret h) dX12_postfix_115
set_option maxHeartbeats 4000000 in
set_option maxRecDepth 100000 in
theorem km_X12_bodyOf (l : Launch) (D : va_G) (cA : Nat → ClassId) (E : hp_N) (sz : Nat) (ad : Nat → Nat) (hj : md_inj ad) (hE : md_E E) (n d : Nat) (rec : md_R) (ih1 : ∀ (sz : Nat) (σ : md_S) (p : Int32 × md_S), rec 1 0 0 0 σ = some p → Met l yX12_innerPrefix (Cond.code yX12_innerPrefix cX12_innerPrefix 2 (some .int) :: v_MOD) ({ frames := d + 10, cells := 0, slots := 0, locals := 25 * d + 244 }) (hp_Pc D vwCl (hp_Tl cA) E sz (md_pic cA ad σ) [.ref (ad 137)]) (hp_Qi D vwCl (hp_Tl cA) sz (md_pic cA ad σ) (fun r u => r = p.1 ∧ u = md_pic cA ad p.2)) 0 0 (hp_A (md_pic cA ad σ) sz)) (σ0 : md_S) (a1 : Int32) (p : (Int32 × md_S)) (h : f_X12_bodyOf n rec σ0 a1 = some p) : Met l yX12_bodyOf (Cond.code yX12_bodyOf cX12_bodyOf 4 none :: v_MOD) ({ frames := (d + 1) + 10, cells := 0, slots := 0, locals := 25 * ((d + 1)) + 244 }) (hp_Pc D vwCl (hp_Tl cA) E sz (md_pic cA ad σ0) [.ref (ad 137), .int a1]) (hp_Qv D vwCl (hp_Tl cA) sz (md_pic cA ad σ0) (fun u => u = md_pic cA ad p.2)) 0 0 (hp_A (md_pic cA ad σ0) sz) := by
  refine hp_ofW (cc := cX12_bodyOf) (maxL := 4) (ret := none) (by decide) rfl (Nat.le_of_ble_eq_true rfl) ?_
  intro pp ee ss mm bb mt cd ls cx hsz hw hl
  have hl : lv_has ls 4 [(0, .ref (ad 137)), (1, .int a1)] := hl
  refine lv_aload_n cx.1 cx.2.1 dX12_bodyOf_0 rfl (lv_at hl 0 rfl) ?_
  obtain ⟨p1, e_p1, h⟩ := md_ob h
  refine hp_callVi (As := []) (rest := []) cx hw (km_X12_isFine l D cA E _ ad hj hE n σ0  p1 e_p1) (cwV 0 cx.2.2.2.2.2.1 (md_giV mm_64 mm_65 mm_66 mm_5 mm_67) rfl rfl rfl hd_X12_isFine ⟨by dsimp only; omega, by dsimp only; omega⟩) md_at0 rfl rfl hl.1 rfl (Nat.le_of_ble_eq_true rfl) dX12_bodyOf_1 ⟨Nat.le_refl _, Nat.le_refl _⟩ (fun r u H locs hp hw => ?_)
  obtain ⟨rfl, rfl⟩ := hp
  refine lv_if_ne (tgt := 8) cx.1 cx.2.1 dX12_bodyOf_4 (by decide) (fun c4 => ?_) (fun c4 => ?_)
  · have h := md_in c4 h
    refine lv_aload_n cx.1 cx.2.1 dX12_bodyOf_8 rfl (lv_at hl 0 rfl) ?_
    refine md_gI (k := 64) cx hw hin12c rfl (by decide) (List.mem_cons_of_mem _ mm_130) dX12_bodyOf_9 ?_
    refine lv_istore_n (lv' := [(2, .int (mI p1.2 64)), (0, .ref (ad 137)), (1, .int a1)]) cx.1 cx.2.1 dX12_bodyOf_12 rfl hl (by decide) rfl (fun ls hl => ?_)
    refine lv_aload_n cx.1 cx.2.1 dX12_bodyOf_13 rfl (lv_at hl 1 rfl) ?_
    refine lv_iload_n cx.1 cx.2.1 dX12_bodyOf_14 rfl (lv_at hl 2 rfl) ?_
    obtain ⟨σ2, e_σ2, h⟩ := md_ob h
    refine md_pI (k := 64) cx hw hin12c rfl (by decide) rfl (List.mem_cons_of_mem _ mm_130) rfl e_σ2 dX12_bodyOf_15 (fun H locs hw => ?_)
    refine lv_aload_n cx.1 cx.2.1 dX12_bodyOf_18 rfl (lv_at hl 1 rfl) ?_
    obtain ⟨p3, e_p3, h⟩ := md_ob h
    refine hp_callVi (As := []) (rest := []) cx hw (ih1 _ σ2  p3 e_p3) (cwV 0 cx.2.2.2.2.2.1 (md_giV mm_314 mm_315 mm_316 mm_5 mm_317) rfl rfl rfl hd_X12_innerPrefix ⟨by dsimp only; omega, by dsimp only; omega⟩) md_at0 rfl rfl hl.1 rfl (Nat.le_of_ble_eq_true rfl) dX12_bodyOf_19 ⟨Nat.le_refl _, Nat.le_refl _⟩ (fun r u H locs hp hw => ?_)
    obtain ⟨rfl, rfl⟩ := hp
    refine lv_istore_n (lv' := [(3, .int p3.1), (2, .int (mI p1.2 64)), (0, .ref (ad 137)), (1, .int a1)]) cx.1 cx.2.1 dX12_bodyOf_22 rfl hl (by decide) rfl (fun ls hl => ?_)
    refine lv_aload_n cx.1 cx.2.1 dX12_bodyOf_23 rfl (lv_at hl 2 rfl) ?_
    refine md_gR (k := 41) cx hw hin12c (by decide) (by decide) (List.mem_cons_of_mem _ mm_261) dX12_bodyOf_24 ?_
    refine lv_iload_n cx.1 cx.2.1 dX12_bodyOf_27 rfl (lv_at hl 3 rfl) ?_
    refine lv_iload_n cx.1 cx.2.1 dX12_bodyOf_28 rfl (lv_at hl 0 rfl) ?_
    obtain ⟨σ4, e_σ4, h⟩ := md_ob h
    refine md_sI (k := 41) hj cx hw (by decide) rfl rfl rfl e_σ4 dX12_bodyOf_29 (fun H locs hw => ?_)
    refine lv_aload_n cx.1 cx.2.1 dX12_bodyOf_30 rfl (lv_at hl 2 rfl) ?_
    refine lv_iload_n cx.1 cx.2.1 dX12_bodyOf_31 rfl (lv_at hl 1 rfl) ?_
    obtain ⟨σ5, e_σ5, h⟩ := md_ob h
    refine md_pI (k := 64) cx hw hin12c rfl (by decide) rfl (List.mem_cons_of_mem _ mm_130) rfl e_σ5 dX12_bodyOf_32 (fun H locs hw => ?_)
    exact hp_vret cx hw (md_retv h) dX12_bodyOf_35
  · have h := md_ip c4 h
    exact hp_vret cx hw (md_retv h) dX12_bodyOf_7
set_option maxHeartbeats 4000000 in
set_option maxRecDepth 100000 in
theorem km_X12_priv (l : Launch) (D : va_G) (cA : Nat → ClassId) (E : hp_N) (sz : Nat) (ad : Nat → Nat) (hj : md_inj ad) (hE : md_E E) (n d : Nat) (rec : md_R) (ih12 : ∀ (sz : Nat) (σ : md_S) (b0 : Int32) (p : Int32 × md_S), rec 12 b0 0 0 σ = some p → Met l yX12_bodyOf (Cond.code yX12_bodyOf cX12_bodyOf 4 none :: v_MOD) ({ frames := d + 10, cells := 0, slots := 0, locals := 25 * d + 244 }) (hp_Pc D vwCl (hp_Tl cA) E sz (md_pic cA ad σ) [.ref (ad 137), .int b0]) (hp_Qv D vwCl (hp_Tl cA) sz (md_pic cA ad σ) (fun u => u = md_pic cA ad p.2)) 0 0 (hp_A (md_pic cA ad σ) sz)) (σ0 : md_S) (p : (Int32 × md_S)) (h : f_X12_priv n rec σ0 = some p) : Met l yX12_priv (Cond.code yX12_priv cX12_priv 5 (some .int) :: v_MOD) ({ frames := (d + 1) + 10, cells := 0, slots := 0, locals := 25 * ((d + 1)) + 244 }) (hp_Pc D vwCl (hp_Tl cA) E sz (md_pic cA ad σ0) [.ref (ad 137)]) (hp_Qi D vwCl (hp_Tl cA) sz (md_pic cA ad σ0) (fun r u => r = p.1 ∧ u = md_pic cA ad p.2)) 0 0 (hp_A (md_pic cA ad σ0) sz) := by
  refine hp_ofW (cc := cX12_priv) (maxL := 5) (ret := (some .int)) (by decide) rfl (Nat.le_of_ble_eq_true rfl) ?_
  intro pp ee ss mm bb mt cd ls cx hsz hw hl
  have hl : lv_has ls 5 [(0, .ref (ad 137))] := hl
  have J149 : ∀ (σ : md_S) (l1 : Int32) (l2 : Int32) (H : Heap) (locs : List Loc) (ls : Array Slot), f_X12_priv_J149 n rec σ l1 l2 = some p → hp_w D vwCl (hp_Tl cA) E (hp_A (md_pic cA ad σ0) sz) ss H locs (md_pic cA ad σ) → lv_has ls 5 [(0, .ref (ad 137)), (1, .int l1), (2, .int l2)] → W pp l ee ({ frames := (d + 1) + 10, cells := 0, slots := 0, locals := 25 * ((d + 1)) + 244 }) ss mm [.ref (ad 137)].toArray bb mt cd H locs 0 0 (MQ bb (hp_Qi D vwCl (hp_Tl cA) sz (md_pic cA ad σ0) (fun r u => r = p.1 ∧ u = md_pic cA ad p.2)) [.ref (ad 137)].toArray ss 0 0 (hp_A (md_pic cA ad σ0) sz)) (F0 mm 149 ls []) := by
    intro σ l1 l2 H locs ls h hw hl
    refine lv_aload_n cx.1 cx.2.1 dX12_priv_149 rfl (lv_at hl 0 rfl) ?_
    refine lv_iload_n cx.1 cx.2.1 dX12_priv_150 rfl (lv_at hl 1 rfl) ?_
    obtain ⟨p1, e_p1, h⟩ := md_ob h
    refine hp_callVv (As := [.int l1]) (rest := []) cx hw (ih12 _ σ l1 p1 e_p1) (cwV 1 cx.2.2.2.2.2.1 (md_giV mm_327 mm_328 mm_329 mm_5 mm_330) rfl rfl rfl hd_X12_bodyOf ⟨by dsimp only; omega, by dsimp only; omega⟩) md_at0 rfl rfl hl.1 rfl (Nat.le_of_ble_eq_true rfl) dX12_priv_151 ⟨Nat.le_refl _, Nat.le_refl _⟩ (fun u H locs hp hw => ?_)
    obtain rfl := hp
    refine lv_iload_n cx.1 cx.2.1 dX12_priv_154 rfl (lv_at hl 2 rfl) ?_
    exact hp_iret cx hw (md_ret h) dX12_priv_155
  refine lv_aload_n cx.1 cx.2.1 dX12_priv_0 rfl (lv_at hl 0 rfl) ?_
  obtain ⟨p2, e_p2, h⟩ := md_ob h
  refine hp_callVi (As := []) (rest := []) cx hw (km_X12_countsPart l D cA E _ ad hj hE n σ0  p2 e_p2) (cwV 0 cx.2.2.2.2.2.1 (md_giV mm_187 mm_188 mm_189 mm_5 mm_190) rfl rfl rfl hd_X12_countsPart ⟨by dsimp only; omega, by dsimp only; omega⟩) md_at0 rfl rfl hl.1 rfl (Nat.le_of_ble_eq_true rfl) dX12_priv_1 ⟨Nat.le_refl _, Nat.le_refl _⟩ (fun r u H locs hp hw => ?_)
  obtain ⟨rfl, rfl⟩ := hp
  refine lv_if_ne (tgt := 9) cx.1 cx.2.1 dX12_priv_4 (by decide) (fun c4 => ?_) (fun c4 => ?_)
  · have h := md_in c4 h
    refine lv_aload_n cx.1 cx.2.1 dX12_priv_9 rfl (lv_at hl 0 rfl) ?_
    refine lv_iconst (v := 2) cx.1 cx.2.1 dX12_priv_10 (by decide) ?_
    refine lv_aload_n cx.1 cx.2.1 dX12_priv_11 rfl (lv_at hl 0 rfl) ?_
    refine md_gR (k := 37) cx hw hin12c (by decide) (by decide) (List.mem_cons_of_mem _ mm_243) dX12_priv_12 ?_
    refine lv_aload_n cx.1 cx.2.1 dX12_priv_15 rfl (lv_at hl 0 rfl) ?_
    refine md_gI (k := 64) cx hw hin12c rfl (by decide) (List.mem_cons_of_mem _ mm_130) dX12_priv_16 ?_
    obtain ⟨v3, e_v3, h⟩ := md_ob h
    refine md_lI (k := 37) hj cx hw (by decide) rfl rfl rfl e_v3 dX12_priv_19 ?_
    refine lv_aload_n cx.1 cx.2.1 dX12_priv_20 rfl (lv_at hl 0 rfl) ?_
    refine md_gI (k := 64) cx hw hin12c rfl (by decide) (List.mem_cons_of_mem _ mm_130) dX12_priv_21 ?_
    obtain ⟨p4, e_p4, h⟩ := md_ob h
    refine hp_callVi (As := [.int 2, .int v3, .int (mI p2.2 64)]) (rest := []) cx hw (km_X12_newUnit l D cA E _ ad hj hE n p2.2 (2 : Int32) v3 ((mI p2.2 64)) p4 e_p4) (cwV 3 cx.2.2.2.2.2.1 (md_giV mm_249 mm_250 mm_251 mm_5 mm_252) rfl rfl rfl hd_X12_newUnit ⟨by dsimp only; omega, by dsimp only; omega⟩) md_at0 rfl rfl hl.1 rfl (Nat.le_of_ble_eq_true rfl) dX12_priv_24 ⟨Nat.le_refl _, Nat.le_refl _⟩ (fun r u H locs hp hw => ?_)
    obtain ⟨rfl, rfl⟩ := hp
    refine lv_istore_n (lv' := [(1, .int p4.1), (0, .ref (ad 137))]) cx.1 cx.2.1 dX12_priv_27 rfl hl (by decide) rfl (fun ls hl => ?_)
    refine lv_aload_n cx.1 cx.2.1 dX12_priv_28 rfl (lv_at hl 1 rfl) ?_
    refine lv_bipush (v := 10) cx.1 cx.2.1 dX12_priv_29 (by decide) ?_
    refine lv_iload_n cx.1 cx.2.1 dX12_priv_31 rfl (lv_at hl 0 rfl) ?_
    refine lv_iconst (v := 0) cx.1 cx.2.1 dX12_priv_32 (by decide) ?_
    obtain ⟨p5, e_p5, h⟩ := md_ob h
    refine hp_callVi (As := [.int 10, .int p4.1, .int 0]) (rest := []) cx hw (km_X12_node l D cA E _ ad hj hE n p4.2 (10 : Int32) (p4.1) (0 : Int32) p5 e_p5) (cwV 3 cx.2.2.2.2.2.1 (md_giV mm_191 mm_192 mm_193 mm_5 mm_194) rfl rfl rfl hd_X12_node ⟨by dsimp only; omega, by dsimp only; omega⟩) md_at0 rfl rfl hl.1 rfl (Nat.le_of_ble_eq_true rfl) dX12_priv_33 ⟨Nat.le_refl _, Nat.le_refl _⟩ (fun r u H locs hp hw => ?_)
    obtain ⟨rfl, rfl⟩ := hp
    refine lv_istore_n (lv' := [(2, .int p5.1), (1, .int p4.1), (0, .ref (ad 137))]) cx.1 cx.2.1 dX12_priv_36 rfl hl (by decide) rfl (fun ls hl => ?_)
    refine lv_aload_n cx.1 cx.2.1 dX12_priv_37 rfl (lv_at hl 2 rfl) ?_
    obtain ⟨p6, e_p6, h⟩ := md_ob h
    refine hp_callVv (As := []) (rest := []) cx hw (km_X12_next l D cA E _ ad hj hE n p5.2  p6 e_p6) (cwV 0 cx.2.2.2.2.2.1 (md_giV mm_92 mm_93 mm_94 mm_5 mm_95) rfl rfl rfl hd_X12_next ⟨by dsimp only; omega, by dsimp only; omega⟩) md_at0 rfl rfl hl.1 rfl (Nat.le_of_ble_eq_true rfl) dX12_priv_38 ⟨Nat.le_refl _, Nat.le_refl _⟩ (fun u H locs hp hw => ?_)
    obtain rfl := hp
    refine lv_aload_n cx.1 cx.2.1 dX12_priv_41 rfl (lv_at hl 2 rfl) ?_
    refine lv_bipush (v := 91) cx.1 cx.2.1 dX12_priv_42 (by decide) ?_
    obtain ⟨p7, e_p7, h⟩ := md_ob h
    refine hp_callVi (As := [.int 91]) (rest := []) cx hw (km_X12_isSign l D cA E _ ad hj hE n p6.2 (91 : Int32) p7 e_p7) (cwV 1 cx.2.2.2.2.2.1 (md_giV mm_84 mm_85 mm_86 mm_5 mm_87) rfl rfl rfl hd_X12_isSign ⟨by dsimp only; omega, by dsimp only; omega⟩) md_at0 rfl rfl hl.1 rfl (Nat.le_of_ble_eq_true rfl) dX12_priv_44 ⟨Nat.le_refl _, Nat.le_refl _⟩ (fun r u H locs hp hw => ?_)
    obtain ⟨rfl, rfl⟩ := hp
    refine lv_if_eq (tgt := 149) cx.1 cx.2.1 dX12_priv_47 (by decide) (fun c47 => ?_) (fun c47 => ?_)
    · have h := md_ip c47 h
      exact J149 p7.2 (p4.1) (p5.1) _ _ _ h hw (lv_sub hl [2, 1, 0] rfl)
    · have h := md_in c47 h
      refine lv_aload_n cx.1 cx.2.1 dX12_priv_50 rfl (lv_at hl 2 rfl) ?_
      refine md_gI (k := 22) cx hw hin12c rfl (by decide) (List.mem_cons_of_mem _ mm_326) dX12_priv_51 ?_
      refine lv_bipush (v := 12) cx.1 cx.2.1 dX12_priv_54 (by decide) ?_
      refine lv_icmp_ne (tgt := 66) cx.1 cx.2.1 dX12_priv_56 (by decide) (fun c56 => ?_) (fun c56 => ?_)
      · have h := md_in c56 h
        refine lv_aload_n cx.1 cx.2.1 dX12_priv_66 rfl (lv_at hl 2 rfl) ?_
        refine md_gR (k := 36) cx hw hin12c (by decide) (by decide) (List.mem_cons_of_mem _ mm_139) dX12_priv_67 ?_
        refine lv_iload_n cx.1 cx.2.1 dX12_priv_70 rfl (lv_at hl 1 rfl) ?_
        refine lv_iconst (v := 3) cx.1 cx.2.1 dX12_priv_71 (by decide) ?_
        obtain ⟨σ8, e_σ8, h⟩ := md_ob h
        refine md_sI (k := 36) hj cx hw (by decide) rfl rfl rfl e_σ8 dX12_priv_72 (fun H locs hw => ?_)
        refine lv_aload_n cx.1 cx.2.1 dX12_priv_73 rfl (lv_at hl 2 rfl) ?_
        refine md_gR (k := 42) cx hw hin12c (by decide) (by decide) (List.mem_cons_of_mem _ mm_247) dX12_priv_74 ?_
        refine lv_iload_n cx.1 cx.2.1 dX12_priv_77 rfl (lv_at hl 1 rfl) ?_
        refine lv_aload_n cx.1 cx.2.1 dX12_priv_78 rfl (lv_at hl 2 rfl) ?_
        refine md_gI (k := 22) cx hw hin12c rfl (by decide) (List.mem_cons_of_mem _ mm_326) dX12_priv_79 ?_
        obtain ⟨σ9, e_σ9, h⟩ := md_ob h
        refine md_sI (k := 42) hj cx hw (by decide) rfl rfl rfl e_σ9 dX12_priv_82 (fun H locs hw => ?_)
        refine lv_bipush (v := 8) cx.1 cx.2.1 dX12_priv_83 (by decide) ?_
        refine lv_aload_n cx.1 cx.2.1 dX12_priv_85 rfl (lv_at hl 2 rfl) ?_
        refine md_gI (k := 22) cx hw hin12c rfl (by decide) (List.mem_cons_of_mem _ mm_326) dX12_priv_86 ?_
        refine lv_iadd cx.1 cx.2.1 dX12_priv_89 ?_
        refine lv_istore_n (lv' := [(3, .int ((8 : Int32) + (mI σ9 22))), (2, .int p5.1), (1, .int p4.1), (0, .ref (ad 137))]) cx.1 cx.2.1 dX12_priv_90 rfl hl (by decide) rfl (fun ls hl => ?_)
        refine lv_aload_n cx.1 cx.2.1 dX12_priv_91 rfl (lv_at hl 3 rfl) ?_
        refine lv_dup cx.1 cx.2.1 dX12_priv_92 rfl ?_
        refine md_gI (k := 22) cx hw hin12c rfl (by decide) (List.mem_cons_of_mem _ mm_326) dX12_priv_93 ?_
        refine lv_iconst (v := 1) cx.1 cx.2.1 dX12_priv_96 (by decide) ?_
        refine lv_iadd cx.1 cx.2.1 dX12_priv_97 ?_
        obtain ⟨σ10, e_σ10, h⟩ := md_ob h
        refine md_pI (k := 22) cx hw hin12c rfl (by decide) rfl (List.mem_cons_of_mem _ mm_326) rfl e_σ10 dX12_priv_98 (fun H locs hw => ?_)
        refine lv_aload_n cx.1 cx.2.1 dX12_priv_101 rfl (lv_at hl 3 rfl) ?_
        refine md_gR (k := 23) cx hw hin12c (by decide) (by decide) (List.mem_cons_of_mem _ mm_111) dX12_priv_102 ?_
        refine lv_iload_n cx.1 cx.2.1 dX12_priv_105 rfl (lv_at hl 0 rfl) ?_
        refine lv_iconst (v := 0) cx.1 cx.2.1 dX12_priv_106 (by decide) ?_
        obtain ⟨σ11, e_σ11, h⟩ := md_ob h
        refine md_sI (k := 23) hj cx hw (by decide) rfl rfl rfl e_σ11 dX12_priv_107 (fun H locs hw => ?_)
        refine lv_iconst (v := 1) cx.1 cx.2.1 dX12_priv_108 (by decide) ?_
        refine lv_istore (lv' := [(4, .int 1), (3, .int ((8 : Int32) + (mI σ9 22))), (2, .int p5.1), (1, .int p4.1), (0, .ref (ad 137))]) cx.1 cx.2.1 dX12_priv_109 hl (by decide) rfl (fun ls hl => ?_)
        have L111 : ∀ (j : Nat) (σ : md_S) (l1 : Int32) (l2 : Int32) (l3 : Int32) (l4 : Int32) (q : (md_S × Int32)) (H : Heap) (locs : List Loc) (ls : Array Slot), f_X12_priv_L111 n rec l1 l2 l3 j σ l4 = some q → hp_w D vwCl (hp_Tl cA) E (hp_A (md_pic cA ad σ0) sz) ss H locs (md_pic cA ad σ) → lv_has ls 5 [(0, .ref (ad 137)), (1, .int l1), (2, .int l2), (3, .int l3), (4, .int l4)] → (∀ (H : Heap) (locs : List Loc) (ls : Array Slot), hp_w D vwCl (hp_Tl cA) E (hp_A (md_pic cA ad σ0) sz) ss H locs (md_pic cA ad q.1) → lv_has ls 5 [(0, .ref (ad 137)), (1, .int l1), (2, .int l2)] → W pp l ee ({ frames := (d + 1) + 10, cells := 0, slots := 0, locals := 25 * ((d + 1)) + 244 }) ss mm [.ref (ad 137)].toArray bb mt cd H locs 0 0 (MQ bb (hp_Qi D vwCl (hp_Tl cA) sz (md_pic cA ad σ0) (fun r u => r = p.1 ∧ u = md_pic cA ad p.2)) [.ref (ad 137)].toArray ss 0 0 (hp_A (md_pic cA ad σ0) sz)) (F0 mm 143 ls [])) → W pp l ee ({ frames := (d + 1) + 10, cells := 0, slots := 0, locals := 25 * ((d + 1)) + 244 }) ss mm [.ref (ad 137)].toArray bb mt cd H locs 0 0 (MQ bb (hp_Qi D vwCl (hp_Tl cA) sz (md_pic cA ad σ0) (fun r u => r = p.1 ∧ u = md_pic cA ad p.2)) [.ref (ad 137)].toArray ss 0 0 (hp_A (md_pic cA ad σ0) sz)) (F0 mm 111 ls []) := by
          intro j
          induction j with
          | zero => intro σ l1 l2 l3 l4 q H locs ls h; exact nomatch h
          | succ j ih =>
            intro σ l1 l2 l3 l4 q H locs ls h hw hl K
            refine lv_iload cx.1 cx.2.1 dX12_priv_111 (lv_at hl 4 rfl) ?_
            refine lv_if_eq (tgt := 143) cx.1 cx.2.1 dX12_priv_113 (by decide) (fun c113 => ?_) (fun c113 => ?_)
            · have h := md_ip c113 h
              obtain rfl := Option.some.inj h
              exact K _ _ _ hw (lv_sub hl [0, 1, 2] rfl)
            · have h := md_in c113 h
              refine lv_aload_n cx.1 cx.2.1 dX12_priv_116 rfl (lv_at hl 0 rfl) ?_
              obtain ⟨p12, e_p12, h⟩ := md_ob h
              refine hp_callVi (As := []) (rest := []) cx hw (km_X12_isFine l D cA E _ ad hj hE n σ  p12 e_p12) (cwV 0 cx.2.2.2.2.2.1 (md_giV mm_64 mm_65 mm_66 mm_5 mm_67) rfl rfl rfl hd_X12_isFine ⟨by dsimp only; omega, by dsimp only; omega⟩) md_at0 rfl rfl hl.1 rfl (Nat.le_of_ble_eq_true rfl) dX12_priv_117 ⟨Nat.le_refl _, Nat.le_refl _⟩ (fun r u H locs hp hw => ?_)
              obtain ⟨rfl, rfl⟩ := hp
              refine lv_if_eq (tgt := 143) cx.1 cx.2.1 dX12_priv_120 (by decide) (fun c120 => ?_) (fun c120 => ?_)
              · have h := md_ip c120 h
                obtain rfl := Option.some.inj h
                exact K _ _ _ hw (lv_sub hl [0, 1, 2] rfl)
              · have h := md_in c120 h
                refine lv_aload_n cx.1 cx.2.1 dX12_priv_123 rfl (lv_at hl 0 rfl) ?_
                obtain ⟨p13, e_p13, h⟩ := md_ob h
                refine hp_callVv (As := []) (rest := []) cx hw (km_X12_next l D cA E _ ad hj hE n p12.2  p13 e_p13) (cwV 0 cx.2.2.2.2.2.1 (md_giV mm_92 mm_93 mm_94 mm_5 mm_95) rfl rfl rfl hd_X12_next ⟨by dsimp only; omega, by dsimp only; omega⟩) md_at0 rfl rfl hl.1 rfl (Nat.le_of_ble_eq_true rfl) dX12_priv_124 ⟨Nat.le_refl _, Nat.le_refl _⟩ (fun u H locs hp hw => ?_)
                obtain rfl := hp
                refine lv_aload_n cx.1 cx.2.1 dX12_priv_127 rfl (lv_at hl 0 rfl) ?_
                refine lv_iload_n cx.1 cx.2.1 dX12_priv_128 rfl (lv_at hl 3 rfl) ?_
                obtain ⟨p14, e_p14, h⟩ := md_ob h
                refine hp_callVv (As := [.int l3]) (rest := []) cx hw (km_X12_right l D cA E _ ad hj hE n p13.2 l3 p14 e_p14) (cwV 1 cx.2.2.2.2.2.1 (md_giV mm_165 mm_166 mm_167 mm_5 mm_168) rfl rfl rfl hd_X12_right ⟨by dsimp only; omega, by dsimp only; omega⟩) md_at0 rfl rfl hl.1 rfl (Nat.le_of_ble_eq_true rfl) dX12_priv_129 ⟨Nat.le_refl _, Nat.le_refl _⟩ (fun u H locs hp hw => ?_)
                obtain rfl := hp
                refine lv_aload_n cx.1 cx.2.1 dX12_priv_132 rfl (lv_at hl 0 rfl) ?_
                refine lv_bipush (v := 44) cx.1 cx.2.1 dX12_priv_133 (by decide) ?_
                obtain ⟨p15, e_p15, h⟩ := md_ob h
                refine hp_callVi (As := [.int 44]) (rest := []) cx hw (km_X12_isSign l D cA E _ ad hj hE n p14.2 (44 : Int32) p15 e_p15) (cwV 1 cx.2.2.2.2.2.1 (md_giV mm_84 mm_85 mm_86 mm_5 mm_87) rfl rfl rfl hd_X12_isSign ⟨by dsimp only; omega, by dsimp only; omega⟩) md_at0 rfl rfl hl.1 rfl (Nat.le_of_ble_eq_true rfl) dX12_priv_135 ⟨Nat.le_refl _, Nat.le_refl _⟩ (fun r u H locs hp hw => ?_)
                obtain ⟨rfl, rfl⟩ := hp
                refine lv_istore (lv' := [(4, .int p15.1), (0, .ref (ad 137)), (1, .int l1), (2, .int l2), (3, .int l3)]) cx.1 cx.2.1 dX12_priv_138 hl (by decide) rfl (fun ls hl => ?_)
                refine lv_goto (tgt := 111) cx.1 cx.2.1 dX12_priv_140 (by decide) ?_
                exact ih p15.2 l1 l2 l3 (p15.1) q _ _ _ h hw (lv_sub hl [1, 2, 3, 4, 0] rfl) K
        obtain ⟨q16, e_q16, h⟩ := md_ob h
        refine L111 n σ11 (p4.1) (p5.1) (((8 : Int32) + (mI σ9 22))) 1 q16 _ _ _ e_q16 hw (lv_sub hl [4, 3, 2, 1, 0] rfl) (fun H locs ls hw hl => ?_)
        refine lv_aload_n cx.1 cx.2.1 dX12_priv_143 rfl (lv_at hl 0 rfl) ?_
        refine lv_bipush (v := 93) cx.1 cx.2.1 dX12_priv_144 (by decide) ?_
        obtain ⟨p17, e_p17, h⟩ := md_ob h
        refine hp_callVv (As := [.int 93]) (rest := []) cx hw (km_X12_sign l D cA E _ ad hj hE n q16.1 (93 : Int32) p17 e_p17) (cwV 1 cx.2.2.2.2.2.1 (md_giV mm_161 mm_162 mm_163 mm_5 mm_164) rfl rfl rfl hd_X12_sign ⟨by dsimp only; omega, by dsimp only; omega⟩) md_at0 rfl rfl hl.1 rfl (Nat.le_of_ble_eq_true rfl) dX12_priv_146 ⟨Nat.le_refl _, Nat.le_refl _⟩ (fun u H locs hp hw => ?_)
        obtain rfl := hp
        exact J149 p17.2 (p4.1) (p5.1) _ _ _ h hw (lv_sub hl [0, 1, 2] rfl)
      · have h := md_ip c56 h
        refine lv_aload_n cx.1 cx.2.1 dX12_priv_59 rfl (lv_at hl 2 rfl) ?_
        refine lv_iconst (v := 4) cx.1 cx.2.1 dX12_priv_60 (by decide) ?_
        obtain ⟨p18, e_p18, h⟩ := md_ob h
        refine hp_callVv (As := [.int 4]) (rest := []) cx hw (km_X12_fails l D cA E _ ad hj hE n p7.2 (4 : Int32) p18 e_p18) (cwV 1 cx.2.2.2.2.2.1 (md_giV mm_54 mm_55 mm_56 mm_5 mm_57) rfl rfl rfl hd_X12_fails ⟨by dsimp only; omega, by dsimp only; omega⟩) md_at0 rfl rfl hl.1 rfl (Nat.le_of_ble_eq_true rfl) dX12_priv_61 ⟨Nat.le_refl _, Nat.le_refl _⟩ (fun u H locs hp hw => ?_)
        obtain rfl := hp
        refine lv_iload_n cx.1 cx.2.1 dX12_priv_64 rfl (lv_at hl 0 rfl) ?_
        exact hp_iret cx hw (md_ret h) dX12_priv_65
  · have h := md_ip c4 h
    refine lv_iconst (v := 0) cx.1 cx.2.1 dX12_priv_7 (by decide) ?_
    exact hp_iret cx hw (md_ret h) dX12_priv_8
set_option maxHeartbeats 4000000 in
set_option maxRecDepth 100000 in
theorem km_X12_under (l : Launch) (D : va_G) (cA : Nat → ClassId) (E : hp_N) (sz : Nat) (ad : Nat → Nat) (hj : md_inj ad) (hE : md_E E) (n d : Nat) (rec : md_R) (ih12 : ∀ (sz : Nat) (σ : md_S) (b0 : Int32) (p : Int32 × md_S), rec 12 b0 0 0 σ = some p → Met l yX12_bodyOf (Cond.code yX12_bodyOf cX12_bodyOf 4 none :: v_MOD) ({ frames := d + 10, cells := 0, slots := 0, locals := 25 * d + 244 }) (hp_Pc D vwCl (hp_Tl cA) E sz (md_pic cA ad σ) [.ref (ad 137), .int b0]) (hp_Qv D vwCl (hp_Tl cA) sz (md_pic cA ad σ) (fun u => u = md_pic cA ad p.2)) 0 0 (hp_A (md_pic cA ad σ) sz)) (ih1 : ∀ (sz : Nat) (σ : md_S) (p : Int32 × md_S), rec 1 0 0 0 σ = some p → Met l yX12_innerPrefix (Cond.code yX12_innerPrefix cX12_innerPrefix 2 (some .int) :: v_MOD) ({ frames := d + 10, cells := 0, slots := 0, locals := 25 * d + 244 }) (hp_Pc D vwCl (hp_Tl cA) E sz (md_pic cA ad σ) [.ref (ad 137)]) (hp_Qi D vwCl (hp_Tl cA) sz (md_pic cA ad σ) (fun r u => r = p.1 ∧ u = md_pic cA ad p.2)) 0 0 (hp_A (md_pic cA ad σ) sz)) (σ0 : md_S) (p : (Int32 × md_S)) (h : f_X12_under n rec σ0 = some p) : Met l yX12_under (Cond.code yX12_under cX12_under 3 (some .int) :: v_MOD) ({ frames := (d + 1) + 10, cells := 0, slots := 0, locals := 25 * ((d + 1)) + 244 }) (hp_Pc D vwCl (hp_Tl cA) E sz (md_pic cA ad σ0) [.ref (ad 137)]) (hp_Qi D vwCl (hp_Tl cA) sz (md_pic cA ad σ0) (fun r u => r = p.1 ∧ u = md_pic cA ad p.2)) 0 0 (hp_A (md_pic cA ad σ0) sz) := by
  refine hp_ofW (cc := cX12_under) (maxL := 3) (ret := (some .int)) (by decide) rfl (Nat.le_of_ble_eq_true rfl) ?_
  intro pp ee ss mm bb mt cd ls cx hsz hw hl
  have hl : lv_has ls 3 [(0, .ref (ad 137))] := hl
  refine lv_aload_n cx.1 cx.2.1 dX12_under_0 rfl (lv_at hl 0 rfl) ?_
  obtain ⟨p1, e_p1, h⟩ := md_ob h
  refine hp_callVi (As := []) (rest := []) cx hw (km_X12_countsPart l D cA E _ ad hj hE n σ0  p1 e_p1) (cwV 0 cx.2.2.2.2.2.1 (md_giV mm_187 mm_188 mm_189 mm_5 mm_190) rfl rfl rfl hd_X12_countsPart ⟨by dsimp only; omega, by dsimp only; omega⟩) md_at0 rfl rfl hl.1 rfl (Nat.le_of_ble_eq_true rfl) dX12_under_1 ⟨Nat.le_refl _, Nat.le_refl _⟩ (fun r u H locs hp hw => ?_)
  obtain ⟨rfl, rfl⟩ := hp
  refine lv_if_ne (tgt := 9) cx.1 cx.2.1 dX12_under_4 (by decide) (fun c4 => ?_) (fun c4 => ?_)
  · have h := md_in c4 h
    refine lv_aload_n cx.1 cx.2.1 dX12_under_9 rfl (lv_at hl 0 rfl) ?_
    refine lv_iconst (v := 4) cx.1 cx.2.1 dX12_under_10 (by decide) ?_
    refine lv_aload_n cx.1 cx.2.1 dX12_under_11 rfl (lv_at hl 0 rfl) ?_
    refine md_gR (k := 37) cx hw hin12c (by decide) (by decide) (List.mem_cons_of_mem _ mm_243) dX12_under_12 ?_
    refine lv_aload_n cx.1 cx.2.1 dX12_under_15 rfl (lv_at hl 0 rfl) ?_
    refine md_gI (k := 64) cx hw hin12c rfl (by decide) (List.mem_cons_of_mem _ mm_130) dX12_under_16 ?_
    obtain ⟨v2, e_v2, h⟩ := md_ob h
    refine md_lI (k := 37) hj cx hw (by decide) rfl rfl rfl e_v2 dX12_under_19 ?_
    refine lv_aload_n cx.1 cx.2.1 dX12_under_20 rfl (lv_at hl 0 rfl) ?_
    refine md_gI (k := 64) cx hw hin12c rfl (by decide) (List.mem_cons_of_mem _ mm_130) dX12_under_21 ?_
    obtain ⟨p3, e_p3, h⟩ := md_ob h
    refine hp_callVi (As := [.int 4, .int v2, .int (mI p1.2 64)]) (rest := []) cx hw (km_X12_newUnit l D cA E _ ad hj hE n p1.2 (4 : Int32) v2 ((mI p1.2 64)) p3 e_p3) (cwV 3 cx.2.2.2.2.2.1 (md_giV mm_249 mm_250 mm_251 mm_5 mm_252) rfl rfl rfl hd_X12_newUnit ⟨by dsimp only; omega, by dsimp only; omega⟩) md_at0 rfl rfl hl.1 rfl (Nat.le_of_ble_eq_true rfl) dX12_under_24 ⟨Nat.le_refl _, Nat.le_refl _⟩ (fun r u H locs hp hw => ?_)
    obtain ⟨rfl, rfl⟩ := hp
    refine lv_istore_n (lv' := [(1, .int p3.1), (0, .ref (ad 137))]) cx.1 cx.2.1 dX12_under_27 rfl hl (by decide) rfl (fun ls hl => ?_)
    refine lv_aload_n cx.1 cx.2.1 dX12_under_28 rfl (lv_at hl 1 rfl) ?_
    refine lv_bipush (v := 10) cx.1 cx.2.1 dX12_under_29 (by decide) ?_
    refine lv_iload_n cx.1 cx.2.1 dX12_under_31 rfl (lv_at hl 0 rfl) ?_
    refine lv_iconst (v := 0) cx.1 cx.2.1 dX12_under_32 (by decide) ?_
    obtain ⟨p4, e_p4, h⟩ := md_ob h
    refine hp_callVi (As := [.int 10, .int p3.1, .int 0]) (rest := []) cx hw (km_X12_node l D cA E _ ad hj hE n p3.2 (10 : Int32) (p3.1) (0 : Int32) p4 e_p4) (cwV 3 cx.2.2.2.2.2.1 (md_giV mm_191 mm_192 mm_193 mm_5 mm_194) rfl rfl rfl hd_X12_node ⟨by dsimp only; omega, by dsimp only; omega⟩) md_at0 rfl rfl hl.1 rfl (Nat.le_of_ble_eq_true rfl) dX12_under_33 ⟨Nat.le_refl _, Nat.le_refl _⟩ (fun r u H locs hp hw => ?_)
    obtain ⟨rfl, rfl⟩ := hp
    refine lv_istore_n (lv' := [(2, .int p4.1), (1, .int p3.1), (0, .ref (ad 137))]) cx.1 cx.2.1 dX12_under_36 rfl hl (by decide) rfl (fun ls hl => ?_)
    refine lv_aload_n cx.1 cx.2.1 dX12_under_37 rfl (lv_at hl 2 rfl) ?_
    obtain ⟨p5, e_p5, h⟩ := md_ob h
    refine hp_callVv (As := []) (rest := []) cx hw (km_X12_next l D cA E _ ad hj hE n p4.2  p5 e_p5) (cwV 0 cx.2.2.2.2.2.1 (md_giV mm_92 mm_93 mm_94 mm_5 mm_95) rfl rfl rfl hd_X12_next ⟨by dsimp only; omega, by dsimp only; omega⟩) md_at0 rfl rfl hl.1 rfl (Nat.le_of_ble_eq_true rfl) dX12_under_38 ⟨Nat.le_refl _, Nat.le_refl _⟩ (fun u H locs hp hw => ?_)
    obtain rfl := hp
    refine lv_aload_n cx.1 cx.2.1 dX12_under_41 rfl (lv_at hl 2 rfl) ?_
    refine lv_iload_n cx.1 cx.2.1 dX12_under_42 rfl (lv_at hl 0 rfl) ?_
    refine lv_aload_n cx.1 cx.2.1 dX12_under_43 rfl (lv_at hl 2 rfl) ?_
    obtain ⟨p6, e_p6, h⟩ := md_ob h
    refine hp_callVi (As := []) (rest := [.int p4.1, .ref (ad 137)]) cx hw (ih1 _ p5.2  p6 e_p6) (cwV 0 cx.2.2.2.2.2.1 (md_giV mm_314 mm_315 mm_316 mm_5 mm_317) rfl rfl rfl hd_X12_innerPrefix ⟨by dsimp only; omega, by dsimp only; omega⟩) md_at0 rfl rfl hl.1 rfl (Nat.le_of_ble_eq_true rfl) dX12_under_44 ⟨Nat.le_refl _, Nat.le_refl _⟩ (fun r u H locs hp hw => ?_)
    obtain ⟨rfl, rfl⟩ := hp
    obtain ⟨p7, e_p7, h⟩ := md_ob h
    refine hp_callVv (As := [.int p4.1, .int p6.1]) (rest := []) cx hw (km_X12_gets l D cA E _ ad hj hE n p6.2 (p4.1) (p6.1) p7 e_p7) (cwV 2 cx.2.2.2.2.2.1 (md_giV mm_199 mm_200 mm_201 mm_5 mm_202) rfl rfl rfl hd_X12_gets ⟨by dsimp only; omega, by dsimp only; omega⟩) md_at0 rfl rfl hl.1 rfl (Nat.le_of_ble_eq_true rfl) dX12_under_47 ⟨Nat.le_refl _, Nat.le_refl _⟩ (fun u H locs hp hw => ?_)
    obtain rfl := hp
    refine lv_aload_n cx.1 cx.2.1 dX12_under_50 rfl (lv_at hl 2 rfl) ?_
    refine lv_bipush (v := 58) cx.1 cx.2.1 dX12_under_51 (by decide) ?_
    obtain ⟨p8, e_p8, h⟩ := md_ob h
    refine hp_callVv (As := [.int 58]) (rest := []) cx hw (km_X12_sign l D cA E _ ad hj hE n p7.2 (58 : Int32) p8 e_p8) (cwV 1 cx.2.2.2.2.2.1 (md_giV mm_161 mm_162 mm_163 mm_5 mm_164) rfl rfl rfl hd_X12_sign ⟨by dsimp only; omega, by dsimp only; omega⟩) md_at0 rfl rfl hl.1 rfl (Nat.le_of_ble_eq_true rfl) dX12_under_53 ⟨Nat.le_refl _, Nat.le_refl _⟩ (fun u H locs hp hw => ?_)
    obtain rfl := hp
    refine lv_aload_n cx.1 cx.2.1 dX12_under_56 rfl (lv_at hl 2 rfl) ?_
    refine lv_iload_n cx.1 cx.2.1 dX12_under_57 rfl (lv_at hl 1 rfl) ?_
    obtain ⟨p9, e_p9, h⟩ := md_ob h
    refine hp_callVv (As := [.int p3.1]) (rest := []) cx hw (ih12 _ p8.2 (p3.1) p9 e_p9) (cwV 1 cx.2.2.2.2.2.1 (md_giV mm_327 mm_328 mm_329 mm_5 mm_330) rfl rfl rfl hd_X12_bodyOf ⟨by dsimp only; omega, by dsimp only; omega⟩) md_at0 rfl rfl hl.1 rfl (Nat.le_of_ble_eq_true rfl) dX12_under_58 ⟨Nat.le_refl _, Nat.le_refl _⟩ (fun u H locs hp hw => ?_)
    obtain rfl := hp
    refine lv_iload_n cx.1 cx.2.1 dX12_under_61 rfl (lv_at hl 0 rfl) ?_
    exact hp_iret cx hw (md_ret h) dX12_under_62
  · have h := md_ip c4 h
    refine lv_iconst (v := 0) cx.1 cx.2.1 dX12_under_7 (by decide) ?_
    exact hp_iret cx hw (md_ret h) dX12_under_8
set_option maxHeartbeats 4000000 in
set_option maxRecDepth 100000 in
theorem km_X12_prefix (l : Launch) (D : va_G) (cA : Nat → ClassId) (E : hp_N) (sz : Nat) (ad : Nat → Nat) (hj : md_inj ad) (hE : md_E E) (n d : Nat) (rec : md_R) (ih1 : ∀ (sz : Nat) (σ : md_S) (p : Int32 × md_S), rec 1 0 0 0 σ = some p → Met l yX12_innerPrefix (Cond.code yX12_innerPrefix cX12_innerPrefix 2 (some .int) :: v_MOD) ({ frames := d + 10, cells := 0, slots := 0, locals := 25 * d + 244 }) (hp_Pc D vwCl (hp_Tl cA) E sz (md_pic cA ad σ) [.ref (ad 137)]) (hp_Qi D vwCl (hp_Tl cA) sz (md_pic cA ad σ) (fun r u => r = p.1 ∧ u = md_pic cA ad p.2)) 0 0 (hp_A (md_pic cA ad σ) sz)) (ih14 : ∀ (sz : Nat) (σ : md_S) (p : Int32 × md_S), rec 14 0 0 0 σ = some p → Met l yX12_postfix (Cond.code yX12_postfix cX12_postfix 4 (some .int) :: v_MOD) ({ frames := d + 10, cells := 0, slots := 0, locals := 25 * d + 244 }) (hp_Pc D vwCl (hp_Tl cA) E sz (md_pic cA ad σ) [.ref (ad 137)]) (hp_Qi D vwCl (hp_Tl cA) sz (md_pic cA ad σ) (fun r u => r = p.1 ∧ u = md_pic cA ad p.2)) 0 0 (hp_A (md_pic cA ad σ) sz)) (ih11 : ∀ (sz : Nat) (σ : md_S) (p : Int32 × md_S), rec 11 0 0 0 σ = some p → Met l yX12_priv (Cond.code yX12_priv cX12_priv 5 (some .int) :: v_MOD) ({ frames := d + 10, cells := 0, slots := 0, locals := 25 * d + 244 }) (hp_Pc D vwCl (hp_Tl cA) E sz (md_pic cA ad σ) [.ref (ad 137)]) (hp_Qi D vwCl (hp_Tl cA) sz (md_pic cA ad σ) (fun r u => r = p.1 ∧ u = md_pic cA ad p.2)) 0 0 (hp_A (md_pic cA ad σ) sz)) (ih13 : ∀ (sz : Nat) (σ : md_S) (p : Int32 × md_S), rec 13 0 0 0 σ = some p → Met l yX12_under (Cond.code yX12_under cX12_under 3 (some .int) :: v_MOD) ({ frames := d + 10, cells := 0, slots := 0, locals := 25 * d + 244 }) (hp_Pc D vwCl (hp_Tl cA) E sz (md_pic cA ad σ) [.ref (ad 137)]) (hp_Qi D vwCl (hp_Tl cA) sz (md_pic cA ad σ) (fun r u => r = p.1 ∧ u = md_pic cA ad p.2)) 0 0 (hp_A (md_pic cA ad σ) sz)) (σ0 : md_S) (p : (Int32 × md_S)) (h : f_X12_prefix n rec σ0 = some p) : Met l yX12_prefix (Cond.code yX12_prefix cX12_prefix 2 (some .int) :: v_MOD) ({ frames := (d + 1) + 10, cells := 0, slots := 0, locals := 25 * ((d + 1)) + 244 }) (hp_Pc D vwCl (hp_Tl cA) E sz (md_pic cA ad σ0) [.ref (ad 137)]) (hp_Qi D vwCl (hp_Tl cA) sz (md_pic cA ad σ0) (fun r u => r = p.1 ∧ u = md_pic cA ad p.2)) 0 0 (hp_A (md_pic cA ad σ0) sz) := by
  refine hp_ofW (cc := cX12_prefix) (maxL := 2) (ret := (some .int)) (by decide) rfl (Nat.le_of_ble_eq_true rfl) ?_
  intro pp ee ss mm bb mt cd ls cx hsz hw hl
  have hl : lv_has ls 2 [(0, .ref (ad 137))] := hl
  have J90 : ∀ (σ : md_S) (t0 : Int32) (H : Heap) (locs : List Loc) (ls : Array Slot), f_X12_prefix_J90 n rec σ t0 = some p → hp_w D vwCl (hp_Tl cA) E (hp_A (md_pic cA ad σ0) sz) ss H locs (md_pic cA ad σ) → lv_has ls 2 [(0, .ref (ad 137))] → W pp l ee ({ frames := (d + 1) + 10, cells := 0, slots := 0, locals := 25 * ((d + 1)) + 244 }) ss mm [.ref (ad 137)].toArray bb mt cd H locs 0 0 (MQ bb (hp_Qi D vwCl (hp_Tl cA) sz (md_pic cA ad σ0) (fun r u => r = p.1 ∧ u = md_pic cA ad p.2)) [.ref (ad 137)].toArray ss 0 0 (hp_A (md_pic cA ad σ0) sz)) (F0 mm 90 ls [.int t0, .ref (ad 137)]) := by
    intro σ t0 H locs ls h hw hl
    refine lv_iconst (v := 0) cx.1 cx.2.1 dX12_prefix_90 (by decide) ?_
    refine lv_iconst (v := 0) cx.1 cx.2.1 dX12_prefix_91 (by decide) ?_
    obtain ⟨p1, e_p1, h⟩ := md_ob h
    refine hp_callVi (As := [.int t0, .int 0, .int 0]) (rest := []) cx hw (km_X12_node l D cA E _ ad hj hE n σ t0 (0 : Int32) (0 : Int32) p1 e_p1) (cwV 3 cx.2.2.2.2.2.1 (md_giV mm_191 mm_192 mm_193 mm_5 mm_194) rfl rfl rfl hd_X12_node ⟨by dsimp only; omega, by dsimp only; omega⟩) md_at0 rfl rfl hl.1 rfl (Nat.le_of_ble_eq_true rfl) dX12_prefix_92 ⟨Nat.le_refl _, Nat.le_refl _⟩ (fun r u H locs hp hw => ?_)
    obtain ⟨rfl, rfl⟩ := hp
    refine lv_istore_n (lv' := [(1, .int p1.1), (0, .ref (ad 137))]) cx.1 cx.2.1 dX12_prefix_95 rfl hl (by decide) rfl (fun ls hl => ?_)
    refine lv_aload_n cx.1 cx.2.1 dX12_prefix_96 rfl (lv_at hl 1 rfl) ?_
    obtain ⟨p2, e_p2, h⟩ := md_ob h
    refine hp_callVv (As := []) (rest := []) cx hw (km_X12_next l D cA E _ ad hj hE n p1.2  p2 e_p2) (cwV 0 cx.2.2.2.2.2.1 (md_giV mm_92 mm_93 mm_94 mm_5 mm_95) rfl rfl rfl hd_X12_next ⟨by dsimp only; omega, by dsimp only; omega⟩) md_at0 rfl rfl hl.1 rfl (Nat.le_of_ble_eq_true rfl) dX12_prefix_97 ⟨Nat.le_refl _, Nat.le_refl _⟩ (fun u H locs hp hw => ?_)
    obtain rfl := hp
    refine lv_aload_n cx.1 cx.2.1 dX12_prefix_100 rfl (lv_at hl 1 rfl) ?_
    refine lv_iload_n cx.1 cx.2.1 dX12_prefix_101 rfl (lv_at hl 0 rfl) ?_
    refine lv_aload_n cx.1 cx.2.1 dX12_prefix_102 rfl (lv_at hl 1 rfl) ?_
    obtain ⟨p3, e_p3, h⟩ := md_ob h
    refine hp_callVi (As := []) (rest := [.int p1.1, .ref (ad 137)]) cx hw (ih1 _ p2.2  p3 e_p3) (cwV 0 cx.2.2.2.2.2.1 (md_giV mm_314 mm_315 mm_316 mm_5 mm_317) rfl rfl rfl hd_X12_innerPrefix ⟨by dsimp only; omega, by dsimp only; omega⟩) md_at0 rfl rfl hl.1 rfl (Nat.le_of_ble_eq_true rfl) dX12_prefix_103 ⟨Nat.le_refl _, Nat.le_refl _⟩ (fun r u H locs hp hw => ?_)
    obtain ⟨rfl, rfl⟩ := hp
    obtain ⟨p4, e_p4, h⟩ := md_ob h
    refine hp_callVv (As := [.int p1.1, .int p3.1]) (rest := []) cx hw (km_X12_gets l D cA E _ ad hj hE n p3.2 (p1.1) (p3.1) p4 e_p4) (cwV 2 cx.2.2.2.2.2.1 (md_giV mm_199 mm_200 mm_201 mm_5 mm_202) rfl rfl rfl hd_X12_gets ⟨by dsimp only; omega, by dsimp only; omega⟩) md_at0 rfl rfl hl.1 rfl (Nat.le_of_ble_eq_true rfl) dX12_prefix_106 ⟨Nat.le_refl _, Nat.le_refl _⟩ (fun u H locs hp hw => ?_)
    obtain rfl := hp
    refine lv_iload_n cx.1 cx.2.1 dX12_prefix_109 rfl (lv_at hl 0 rfl) ?_
    exact hp_iret cx hw (md_ret h) dX12_prefix_110
  have J36 : ∀ (σ : md_S) (H : Heap) (locs : List Loc) (ls : Array Slot), f_X12_prefix_J36 n rec σ = some p → hp_w D vwCl (hp_Tl cA) E (hp_A (md_pic cA ad σ0) sz) ss H locs (md_pic cA ad σ) → lv_has ls 2 [(0, .ref (ad 137))] → W pp l ee ({ frames := (d + 1) + 10, cells := 0, slots := 0, locals := 25 * ((d + 1)) + 244 }) ss mm [.ref (ad 137)].toArray bb mt cd H locs 0 0 (MQ bb (hp_Qi D vwCl (hp_Tl cA) sz (md_pic cA ad σ0) (fun r u => r = p.1 ∧ u = md_pic cA ad p.2)) [.ref (ad 137)].toArray ss 0 0 (hp_A (md_pic cA ad σ0) sz)) (F0 mm 36 ls []) := by
    intro σ H locs ls h hw hl
    refine lv_aload_n cx.1 cx.2.1 dX12_prefix_36 rfl (lv_at hl 0 rfl) ?_
    obtain ⟨p5, e_p5, h⟩ := md_ob h
    refine hp_callVi (As := []) (rest := []) cx hw (km_X12_countsPart l D cA E _ ad hj hE n σ  p5 e_p5) (cwV 0 cx.2.2.2.2.2.1 (md_giV mm_187 mm_188 mm_189 mm_5 mm_190) rfl rfl rfl hd_X12_countsPart ⟨by dsimp only; omega, by dsimp only; omega⟩) md_at0 rfl rfl hl.1 rfl (Nat.le_of_ble_eq_true rfl) dX12_prefix_37 ⟨Nat.le_refl _, Nat.le_refl _⟩ (fun r u H locs hp hw => ?_)
    obtain ⟨rfl, rfl⟩ := hp
    refine lv_if_ne (tgt := 45) cx.1 cx.2.1 dX12_prefix_40 (by decide) (fun c40 => ?_) (fun c40 => ?_)
    · have h := md_in c40 h
      refine lv_aload_n cx.1 cx.2.1 dX12_prefix_45 rfl (lv_at hl 0 rfl) ?_
      refine lv_aload_n cx.1 cx.2.1 dX12_prefix_46 rfl (lv_at hl 0 rfl) ?_
      refine md_gI (k := 11) cx hw hin12c rfl (by decide) (List.mem_cons_of_mem _ mm_53) dX12_prefix_47 ?_
      refine lv_bipush (v := 19) cx.1 cx.2.1 dX12_prefix_50 (by decide) ?_
      refine lv_icmp_ne (tgt := 60) cx.1 cx.2.1 dX12_prefix_52 (by decide) (fun c52 => ?_) (fun c52 => ?_)
      · have h := md_in c52 h
        refine lv_aload_n cx.1 cx.2.1 dX12_prefix_60 rfl (lv_at hl 0 rfl) ?_
        refine md_gI (k := 11) cx hw hin12c rfl (by decide) (List.mem_cons_of_mem _ mm_53) dX12_prefix_61 ?_
        refine lv_bipush (v := 22) cx.1 cx.2.1 dX12_prefix_64 (by decide) ?_
        refine lv_icmp_ne (tgt := 74) cx.1 cx.2.1 dX12_prefix_66 (by decide) (fun c66 => ?_) (fun c66 => ?_)
        · have h := md_in c66 h
          refine lv_aload_n cx.1 cx.2.1 dX12_prefix_74 rfl (lv_at hl 0 rfl) ?_
          refine md_gI (k := 11) cx hw hin12c rfl (by decide) (List.mem_cons_of_mem _ mm_53) dX12_prefix_75 ?_
          refine lv_bipush (v := 20) cx.1 cx.2.1 dX12_prefix_78 (by decide) ?_
          refine lv_icmp_ne (tgt := 88) cx.1 cx.2.1 dX12_prefix_80 (by decide) (fun c80 => ?_) (fun c80 => ?_)
          · have h := md_in c80 h
            refine lv_bipush (v := 24) cx.1 cx.2.1 dX12_prefix_88 (by decide) ?_
            exact J90 p5.2 24 _ _ _ h hw (lv_sub hl [0] rfl)
          · have h := md_ip c80 h
            refine lv_bipush (v := 23) cx.1 cx.2.1 dX12_prefix_83 (by decide) ?_
            refine lv_goto (tgt := 90) cx.1 cx.2.1 dX12_prefix_85 (by decide) ?_
            exact J90 p5.2 23 _ _ _ h hw (lv_sub hl [0] rfl)
        · have h := md_ip c66 h
          refine lv_bipush (v := 22) cx.1 cx.2.1 dX12_prefix_69 (by decide) ?_
          refine lv_goto (tgt := 90) cx.1 cx.2.1 dX12_prefix_71 (by decide) ?_
          exact J90 p5.2 22 _ _ _ h hw (lv_sub hl [0] rfl)
      · have h := md_ip c52 h
        refine lv_bipush (v := 21) cx.1 cx.2.1 dX12_prefix_55 (by decide) ?_
        refine lv_goto (tgt := 90) cx.1 cx.2.1 dX12_prefix_57 (by decide) ?_
        exact J90 p5.2 21 _ _ _ h hw (lv_sub hl [0] rfl)
    · have h := md_ip c40 h
      refine lv_iconst (v := 0) cx.1 cx.2.1 dX12_prefix_43 (by decide) ?_
      exact hp_iret cx hw (md_ret h) dX12_prefix_44
  refine lv_aload_n cx.1 cx.2.1 dX12_prefix_0 rfl (lv_at hl 0 rfl) ?_
  refine lv_bipush (v := 19) cx.1 cx.2.1 dX12_prefix_1 (by decide) ?_
  obtain ⟨p6, e_p6, h⟩ := md_ob h
  refine hp_callVi (As := [.int 19]) (rest := []) cx hw (km_X12_isKey l D cA E _ ad hj hE n σ0 (19 : Int32) p6 e_p6) (cwV 1 cx.2.2.2.2.2.1 (md_giV mm_96 mm_97 mm_98 mm_5 mm_99) rfl rfl rfl hd_X12_isKey ⟨by dsimp only; omega, by dsimp only; omega⟩) md_at0 rfl rfl hl.1 rfl (Nat.le_of_ble_eq_true rfl) dX12_prefix_3 ⟨Nat.le_refl _, Nat.le_refl _⟩ (fun r u H locs hp hw => ?_)
  obtain ⟨rfl, rfl⟩ := hp
  refine lv_if_ne (tgt := 36) cx.1 cx.2.1 dX12_prefix_6 (by decide) (fun c6 => ?_) (fun c6 => ?_)
  · have h := md_in c6 h
    exact J36 p6.2 _ _ _ h hw (lv_sub hl [0] rfl)
  · have h := md_ip c6 h
    refine lv_aload_n cx.1 cx.2.1 dX12_prefix_9 rfl (lv_at hl 0 rfl) ?_
    refine lv_bipush (v := 22) cx.1 cx.2.1 dX12_prefix_10 (by decide) ?_
    obtain ⟨p7, e_p7, h⟩ := md_ob h
    refine hp_callVi (As := [.int 22]) (rest := []) cx hw (km_X12_isKey l D cA E _ ad hj hE n p6.2 (22 : Int32) p7 e_p7) (cwV 1 cx.2.2.2.2.2.1 (md_giV mm_96 mm_97 mm_98 mm_5 mm_99) rfl rfl rfl hd_X12_isKey ⟨by dsimp only; omega, by dsimp only; omega⟩) md_at0 rfl rfl hl.1 rfl (Nat.le_of_ble_eq_true rfl) dX12_prefix_12 ⟨Nat.le_refl _, Nat.le_refl _⟩ (fun r u H locs hp hw => ?_)
    obtain ⟨rfl, rfl⟩ := hp
    refine lv_if_ne (tgt := 36) cx.1 cx.2.1 dX12_prefix_15 (by decide) (fun c15 => ?_) (fun c15 => ?_)
    · have h := md_in c15 h
      exact J36 p7.2 _ _ _ h hw (lv_sub hl [0] rfl)
    · have h := md_ip c15 h
      refine lv_aload_n cx.1 cx.2.1 dX12_prefix_18 rfl (lv_at hl 0 rfl) ?_
      refine lv_bipush (v := 20) cx.1 cx.2.1 dX12_prefix_19 (by decide) ?_
      obtain ⟨p8, e_p8, h⟩ := md_ob h
      refine hp_callVi (As := [.int 20]) (rest := []) cx hw (km_X12_isKey l D cA E _ ad hj hE n p7.2 (20 : Int32) p8 e_p8) (cwV 1 cx.2.2.2.2.2.1 (md_giV mm_96 mm_97 mm_98 mm_5 mm_99) rfl rfl rfl hd_X12_isKey ⟨by dsimp only; omega, by dsimp only; omega⟩) md_at0 rfl rfl hl.1 rfl (Nat.le_of_ble_eq_true rfl) dX12_prefix_21 ⟨Nat.le_refl _, Nat.le_refl _⟩ (fun r u H locs hp hw => ?_)
      obtain ⟨rfl, rfl⟩ := hp
      refine lv_if_ne (tgt := 36) cx.1 cx.2.1 dX12_prefix_24 (by decide) (fun c24 => ?_) (fun c24 => ?_)
      · have h := md_in c24 h
        exact J36 p8.2 _ _ _ h hw (lv_sub hl [0] rfl)
      · have h := md_ip c24 h
        refine lv_aload_n cx.1 cx.2.1 dX12_prefix_27 rfl (lv_at hl 0 rfl) ?_
        refine lv_bipush (v := 21) cx.1 cx.2.1 dX12_prefix_28 (by decide) ?_
        obtain ⟨p9, e_p9, h⟩ := md_ob h
        refine hp_callVi (As := [.int 21]) (rest := []) cx hw (km_X12_isKey l D cA E _ ad hj hE n p8.2 (21 : Int32) p9 e_p9) (cwV 1 cx.2.2.2.2.2.1 (md_giV mm_96 mm_97 mm_98 mm_5 mm_99) rfl rfl rfl hd_X12_isKey ⟨by dsimp only; omega, by dsimp only; omega⟩) md_at0 rfl rfl hl.1 rfl (Nat.le_of_ble_eq_true rfl) dX12_prefix_30 ⟨Nat.le_refl _, Nat.le_refl _⟩ (fun r u H locs hp hw => ?_)
        obtain ⟨rfl, rfl⟩ := hp
        refine lv_if_eq (tgt := 111) cx.1 cx.2.1 dX12_prefix_33 (by decide) (fun c33 => ?_) (fun c33 => ?_)
        · have h := md_ip c33 h
          refine lv_aload_n cx.1 cx.2.1 dX12_prefix_111 rfl (lv_at hl 0 rfl) ?_
          refine lv_bipush (v := 10) cx.1 cx.2.1 dX12_prefix_112 (by decide) ?_
          obtain ⟨p10, e_p10, h⟩ := md_ob h
          refine hp_callVi (As := [.int 10]) (rest := []) cx hw (km_X12_isKey l D cA E _ ad hj hE n p9.2 (10 : Int32) p10 e_p10) (cwV 1 cx.2.2.2.2.2.1 (md_giV mm_96 mm_97 mm_98 mm_5 mm_99) rfl rfl rfl hd_X12_isKey ⟨by dsimp only; omega, by dsimp only; omega⟩) md_at0 rfl rfl hl.1 rfl (Nat.le_of_ble_eq_true rfl) dX12_prefix_114 ⟨Nat.le_refl _, Nat.le_refl _⟩ (fun r u H locs hp hw => ?_)
          obtain ⟨rfl, rfl⟩ := hp
          refine lv_if_eq (tgt := 125) cx.1 cx.2.1 dX12_prefix_117 (by decide) (fun c117 => ?_) (fun c117 => ?_)
          · have h := md_ip c117 h
            refine lv_aload_n cx.1 cx.2.1 dX12_prefix_125 rfl (lv_at hl 0 rfl) ?_
            refine lv_bipush (v := 11) cx.1 cx.2.1 dX12_prefix_126 (by decide) ?_
            obtain ⟨p11, e_p11, h⟩ := md_ob h
            refine hp_callVi (As := [.int 11]) (rest := []) cx hw (km_X12_isKey l D cA E _ ad hj hE n p10.2 (11 : Int32) p11 e_p11) (cwV 1 cx.2.2.2.2.2.1 (md_giV mm_96 mm_97 mm_98 mm_5 mm_99) rfl rfl rfl hd_X12_isKey ⟨by dsimp only; omega, by dsimp only; omega⟩) md_at0 rfl rfl hl.1 rfl (Nat.le_of_ble_eq_true rfl) dX12_prefix_128 ⟨Nat.le_refl _, Nat.le_refl _⟩ (fun r u H locs hp hw => ?_)
            obtain ⟨rfl, rfl⟩ := hp
            refine lv_if_eq (tgt := 141) cx.1 cx.2.1 dX12_prefix_131 (by decide) (fun c131 => ?_) (fun c131 => ?_)
            · have h := md_ip c131 h
              refine lv_aload_n cx.1 cx.2.1 dX12_prefix_141 rfl (lv_at hl 0 rfl) ?_
              obtain ⟨p12, e_p12, h⟩ := md_ob h
              refine hp_callVi (As := []) (rest := []) cx hw (ih14 _ p11.2  p12 e_p12) (cwV 0 cx.2.2.2.2.2.1 (md_giV mm_331 mm_332 mm_333 mm_5 mm_334) rfl rfl rfl hd_X12_postfix ⟨by dsimp only; omega, by dsimp only; omega⟩) md_at0 rfl rfl hl.1 rfl (Nat.le_of_ble_eq_true rfl) dX12_prefix_142 ⟨Nat.le_refl _, Nat.le_refl _⟩ (fun r u H locs hp hw => ?_)
              obtain ⟨rfl, rfl⟩ := hp
              exact hp_iret cx hw (md_ret h) dX12_prefix_145
            · have h := md_in c131 h
              refine lv_aload_n cx.1 cx.2.1 dX12_prefix_134 rfl (lv_at hl 0 rfl) ?_
              obtain ⟨p13, e_p13, h⟩ := md_ob h
              refine hp_callVi (As := []) (rest := []) cx hw (ih13 _ p11.2  p13 e_p13) (cwV 0 cx.2.2.2.2.2.1 (md_giV mm_335 mm_336 mm_337 mm_5 mm_338) rfl rfl rfl hd_X12_under ⟨by dsimp only; omega, by dsimp only; omega⟩) md_at0 rfl rfl hl.1 rfl (Nat.le_of_ble_eq_true rfl) dX12_prefix_135 ⟨Nat.le_refl _, Nat.le_refl _⟩ (fun r u H locs hp hw => ?_)
              obtain ⟨rfl, rfl⟩ := hp
              refine lv_goto (tgt := 145) cx.1 cx.2.1 dX12_prefix_138 (by decide) ?_
              exact hp_iret cx hw (md_ret h) dX12_prefix_145
          · have h := md_in c117 h
            refine lv_aload_n cx.1 cx.2.1 dX12_prefix_120 rfl (lv_at hl 0 rfl) ?_
            obtain ⟨p14, e_p14, h⟩ := md_ob h
            refine hp_callVi (As := []) (rest := []) cx hw (ih11 _ p10.2  p14 e_p14) (cwV 0 cx.2.2.2.2.2.1 (md_giV mm_339 mm_340 mm_341 mm_5 mm_342) rfl rfl rfl hd_X12_priv ⟨by dsimp only; omega, by dsimp only; omega⟩) md_at0 rfl rfl hl.1 rfl (Nat.le_of_ble_eq_true rfl) dX12_prefix_121 ⟨Nat.le_refl _, Nat.le_refl _⟩ (fun r u H locs hp hw => ?_)
            obtain ⟨rfl, rfl⟩ := hp
            exact hp_iret cx hw (md_ret h) dX12_prefix_124
        · have h := md_in c33 h
          exact J36 p9.2 _ _ _ h hw (lv_sub hl [0] rfl)
set_option maxHeartbeats 4000000 in
set_option maxRecDepth 100000 in
theorem km_X12_anyPrefix (l : Launch) (D : va_G) (cA : Nat → ClassId) (E : hp_N) (sz : Nat) (ad : Nat → Nat) (hj : md_inj ad) (hE : md_E E) (n d : Nat) (rec : md_R) (ih10 : ∀ (sz : Nat) (σ : md_S) (p : Int32 × md_S), rec 10 0 0 0 σ = some p → Met l yX12_prefix (Cond.code yX12_prefix cX12_prefix 2 (some .int) :: v_MOD) ({ frames := d + 10, cells := 0, slots := 0, locals := 25 * d + 244 }) (hp_Pc D vwCl (hp_Tl cA) E sz (md_pic cA ad σ) [.ref (ad 137)]) (hp_Qi D vwCl (hp_Tl cA) sz (md_pic cA ad σ) (fun r u => r = p.1 ∧ u = md_pic cA ad p.2)) 0 0 (hp_A (md_pic cA ad σ) sz)) (σ0 : md_S) (p : (Int32 × md_S)) (h : f_X12_anyPrefix n rec σ0 = some p) : Met l yX12_anyPrefix (Cond.code yX12_anyPrefix cX12_anyPrefix 1 (some .int) :: v_MOD) ({ frames := (d + 1) + 10, cells := 0, slots := 0, locals := 25 * ((d + 1)) + 244 }) (hp_Pc D vwCl (hp_Tl cA) E sz (md_pic cA ad σ0) [.ref (ad 137)]) (hp_Qi D vwCl (hp_Tl cA) sz (md_pic cA ad σ0) (fun r u => r = p.1 ∧ u = md_pic cA ad p.2)) 0 0 (hp_A (md_pic cA ad σ0) sz) := by
  refine hp_ofW (cc := cX12_anyPrefix) (maxL := 1) (ret := (some .int)) (by decide) rfl (Nat.le_of_ble_eq_true rfl) ?_
  intro pp ee ss mm bb mt cd ls cx hsz hw hl
  have hl : lv_has ls 1 [(0, .ref (ad 137))] := hl
  have J18 : ∀ (σ : md_S) (H : Heap) (locs : List Loc) (ls : Array Slot), f_X12_anyPrefix_J18 n rec σ = some p → hp_w D vwCl (hp_Tl cA) E (hp_A (md_pic cA ad σ0) sz) ss H locs (md_pic cA ad σ) → lv_has ls 1 [(0, .ref (ad 137))] → W pp l ee ({ frames := (d + 1) + 10, cells := 0, slots := 0, locals := 25 * ((d + 1)) + 244 }) ss mm [.ref (ad 137)].toArray bb mt cd H locs 0 0 (MQ bb (hp_Qi D vwCl (hp_Tl cA) sz (md_pic cA ad σ0) (fun r u => r = p.1 ∧ u = md_pic cA ad p.2)) [.ref (ad 137)].toArray ss 0 0 (hp_A (md_pic cA ad σ0) sz)) (F0 mm 18 ls []) := by
    intro σ H locs ls h hw hl
    refine lv_aload_n cx.1 cx.2.1 dX12_anyPrefix_18 rfl (lv_at hl 0 rfl) ?_
    obtain ⟨p1, e_p1, h⟩ := md_ob h
    refine hp_callVi (As := []) (rest := []) cx hw (km_X12_isFine l D cA E _ ad hj hE n σ  p1 e_p1) (cwV 0 cx.2.2.2.2.2.1 (md_giV mm_64 mm_65 mm_66 mm_5 mm_67) rfl rfl rfl hd_X12_isFine ⟨by dsimp only; omega, by dsimp only; omega⟩) md_at0 rfl rfl hl.1 rfl (Nat.le_of_ble_eq_true rfl) dX12_anyPrefix_19 ⟨Nat.le_refl _, Nat.le_refl _⟩ (fun r u H locs hp hw => ?_)
    obtain ⟨rfl, rfl⟩ := hp
    refine lv_if_eq (tgt := 32) cx.1 cx.2.1 dX12_anyPrefix_22 (by decide) (fun c22 => ?_) (fun c22 => ?_)
    · have h := md_ip c22 h
      refine lv_iconst (v := 0) cx.1 cx.2.1 dX12_anyPrefix_32 (by decide) ?_
      exact hp_iret cx hw (md_ret h) dX12_anyPrefix_33
    · have h := md_in c22 h
      refine lv_aload_n cx.1 cx.2.1 dX12_anyPrefix_25 rfl (lv_at hl 0 rfl) ?_
      obtain ⟨p2, e_p2, h⟩ := md_ob h
      refine hp_callVi (As := []) (rest := []) cx hw (ih10 _ p1.2  p2 e_p2) (cwV 0 cx.2.2.2.2.2.1 (md_giV mm_232 mm_233 mm_234 mm_5 mm_235) rfl rfl rfl hd_X12_prefix ⟨by dsimp only; omega, by dsimp only; omega⟩) md_at0 rfl rfl hl.1 rfl (Nat.le_of_ble_eq_true rfl) dX12_anyPrefix_26 ⟨Nat.le_refl _, Nat.le_refl _⟩ (fun r u H locs hp hw => ?_)
      obtain ⟨rfl, rfl⟩ := hp
      refine lv_goto (tgt := 33) cx.1 cx.2.1 dX12_anyPrefix_29 (by decide) ?_
      exact hp_iret cx hw (md_ret h) dX12_anyPrefix_33
  refine lv_aload_n cx.1 cx.2.1 dX12_anyPrefix_0 rfl (lv_at hl 0 rfl) ?_
  obtain ⟨p3, e_p3, h⟩ := md_ob h
  refine hp_callVi (As := []) (rest := []) cx hw (km_X12_isFine l D cA E _ ad hj hE n σ0  p3 e_p3) (cwV 0 cx.2.2.2.2.2.1 (md_giV mm_64 mm_65 mm_66 mm_5 mm_67) rfl rfl rfl hd_X12_isFine ⟨by dsimp only; omega, by dsimp only; omega⟩) md_at0 rfl rfl hl.1 rfl (Nat.le_of_ble_eq_true rfl) dX12_anyPrefix_1 ⟨Nat.le_refl _, Nat.le_refl _⟩ (fun r u H locs hp hw => ?_)
  obtain ⟨rfl, rfl⟩ := hp
  refine lv_if_eq (tgt := 18) cx.1 cx.2.1 dX12_anyPrefix_4 (by decide) (fun c4 => ?_) (fun c4 => ?_)
  · have h := md_ip c4 h
    exact J18 p3.2 _ _ _ h hw (lv_sub hl [0] rfl)
  · have h := md_in c4 h
    refine lv_aload_n cx.1 cx.2.1 dX12_anyPrefix_7 rfl (lv_at hl 0 rfl) ?_
    obtain ⟨p4, e_p4, h⟩ := md_ob h
    refine hp_callVi (As := []) (rest := []) cx hw (km_X12_beginsPrefix l D cA E _ ad hj hE n p3.2  p4 e_p4) (cwV 0 cx.2.2.2.2.2.1 (md_giV mm_181 mm_182 mm_183 mm_5 mm_184) rfl rfl rfl hd_X12_beginsPrefix ⟨by dsimp only; omega, by dsimp only; omega⟩) md_at0 rfl rfl hl.1 rfl (Nat.le_of_ble_eq_true rfl) dX12_anyPrefix_8 ⟨Nat.le_refl _, Nat.le_refl _⟩ (fun r u H locs hp hw => ?_)
    obtain ⟨rfl, rfl⟩ := hp
    refine lv_if_ne (tgt := 18) cx.1 cx.2.1 dX12_anyPrefix_11 (by decide) (fun c11 => ?_) (fun c11 => ?_)
    · have h := md_in c11 h
      exact J18 p4.2 _ _ _ h hw (lv_sub hl [0] rfl)
    · have h := md_ip c11 h
      refine lv_aload_n cx.1 cx.2.1 dX12_anyPrefix_14 rfl (lv_at hl 0 rfl) ?_
      obtain ⟨p5, e_p5, h⟩ := md_ob h
      refine hp_callVv (As := []) (rest := []) cx hw (km_X12_misfit l D cA E _ ad hj hE n p4.2  p5 e_p5) (cwV 0 cx.2.2.2.2.2.1 (md_giV mm_88 mm_89 mm_90 mm_5 mm_91) rfl rfl rfl hd_X12_misfit ⟨by dsimp only; omega, by dsimp only; omega⟩) md_at0 rfl rfl hl.1 rfl (Nat.le_of_ble_eq_true rfl) dX12_anyPrefix_15 ⟨Nat.le_refl _, Nat.le_refl _⟩ (fun u H locs hp hw => ?_)
      obtain rfl := hp
      exact J18 p5.2 _ _ _ h hw (lv_sub hl [0] rfl)
set_option maxHeartbeats 4000000 in
set_option maxRecDepth 100000 in
theorem km_X12_product (l : Launch) (D : va_G) (cA : Nat → ClassId) (E : hp_N) (sz : Nat) (ad : Nat → Nat) (hj : md_inj ad) (hE : md_E E) (n d : Nat) (rec : md_R) (ih5 : ∀ (sz : Nat) (σ : md_S) (p : Int32 × md_S), rec 5 0 0 0 σ = some p → Met l yX12_anyPrefix (Cond.code yX12_anyPrefix cX12_anyPrefix 1 (some .int) :: v_MOD) ({ frames := d + 10, cells := 0, slots := 0, locals := 25 * d + 244 }) (hp_Pc D vwCl (hp_Tl cA) E sz (md_pic cA ad σ) [.ref (ad 137)]) (hp_Qi D vwCl (hp_Tl cA) sz (md_pic cA ad σ) (fun r u => r = p.1 ∧ u = md_pic cA ad p.2)) 0 0 (hp_A (md_pic cA ad σ) sz)) (σ0 : md_S) (p : (Int32 × md_S)) (h : f_X12_product n rec σ0 = some p) : Met l yX12_product (Cond.code yX12_product cX12_product 2 (some .int) :: v_MOD) ({ frames := (d + 1) + 10, cells := 0, slots := 0, locals := 25 * ((d + 1)) + 244 }) (hp_Pc D vwCl (hp_Tl cA) E sz (md_pic cA ad σ0) [.ref (ad 137)]) (hp_Qi D vwCl (hp_Tl cA) sz (md_pic cA ad σ0) (fun r u => r = p.1 ∧ u = md_pic cA ad p.2)) 0 0 (hp_A (md_pic cA ad σ0) sz) := by
  refine hp_ofW (cc := cX12_product) (maxL := 2) (ret := (some .int)) (by decide) rfl (Nat.le_of_ble_eq_true rfl) ?_
  intro pp ee ss mm bb mt cd ls cx hsz hw hl
  have hl : lv_has ls 2 [(0, .ref (ad 137))] := hl
  refine lv_aload_n cx.1 cx.2.1 dX12_product_0 rfl (lv_at hl 0 rfl) ?_
  obtain ⟨p1, e_p1, h⟩ := md_ob h
  refine hp_callVi (As := []) (rest := []) cx hw (ih5 _ σ0  p1 e_p1) (cwV 0 cx.2.2.2.2.2.1 (md_giV mm_343 mm_344 mm_345 mm_5 mm_346) rfl rfl rfl hd_X12_anyPrefix ⟨by dsimp only; omega, by dsimp only; omega⟩) md_at0 rfl rfl hl.1 rfl (Nat.le_of_ble_eq_true rfl) dX12_product_1 ⟨Nat.le_refl _, Nat.le_refl _⟩ (fun r u H locs hp hw => ?_)
  obtain ⟨rfl, rfl⟩ := hp
  refine lv_istore_n (lv' := [(1, .int p1.1), (0, .ref (ad 137))]) cx.1 cx.2.1 dX12_product_4 rfl hl (by decide) rfl (fun ls hl => ?_)
  have L5 : ∀ (j : Nat) (σ : md_S) (l1 : Int32) (q : (md_S × Int32)) (H : Heap) (locs : List Loc) (ls : Array Slot), f_X12_product_L5 n rec j σ l1 = some q → hp_w D vwCl (hp_Tl cA) E (hp_A (md_pic cA ad σ0) sz) ss H locs (md_pic cA ad σ) → lv_has ls 2 [(0, .ref (ad 137)), (1, .int l1)] → (∀ (H : Heap) (locs : List Loc) (ls : Array Slot), hp_w D vwCl (hp_Tl cA) E (hp_A (md_pic cA ad σ0) sz) ss H locs (md_pic cA ad q.1) → lv_has ls 2 [(1, .int q.2)] → W pp l ee ({ frames := (d + 1) + 10, cells := 0, slots := 0, locals := 25 * ((d + 1)) + 244 }) ss mm [.ref (ad 137)].toArray bb mt cd H locs 0 0 (MQ bb (hp_Qi D vwCl (hp_Tl cA) sz (md_pic cA ad σ0) (fun r u => r = p.1 ∧ u = md_pic cA ad p.2)) [.ref (ad 137)].toArray ss 0 0 (hp_A (md_pic cA ad σ0) sz)) (F0 mm 34 ls [])) → W pp l ee ({ frames := (d + 1) + 10, cells := 0, slots := 0, locals := 25 * ((d + 1)) + 244 }) ss mm [.ref (ad 137)].toArray bb mt cd H locs 0 0 (MQ bb (hp_Qi D vwCl (hp_Tl cA) sz (md_pic cA ad σ0) (fun r u => r = p.1 ∧ u = md_pic cA ad p.2)) [.ref (ad 137)].toArray ss 0 0 (hp_A (md_pic cA ad σ0) sz)) (F0 mm 5 ls []) := by
    intro j
    induction j with
    | zero => intro σ l1 q H locs ls h; exact nomatch h
    | succ j ih =>
      intro σ l1 q H locs ls h hw hl K
      refine lv_aload_n cx.1 cx.2.1 dX12_product_5 rfl (lv_at hl 0 rfl) ?_
      refine lv_bipush (v := 42) cx.1 cx.2.1 dX12_product_6 (by decide) ?_
      obtain ⟨p2, e_p2, h⟩ := md_ob h
      refine hp_callVi (As := [.int 42]) (rest := []) cx hw (km_X12_isSign l D cA E _ ad hj hE n σ (42 : Int32) p2 e_p2) (cwV 1 cx.2.2.2.2.2.1 (md_giV mm_84 mm_85 mm_86 mm_5 mm_87) rfl rfl rfl hd_X12_isSign ⟨by dsimp only; omega, by dsimp only; omega⟩) md_at0 rfl rfl hl.1 rfl (Nat.le_of_ble_eq_true rfl) dX12_product_8 ⟨Nat.le_refl _, Nat.le_refl _⟩ (fun r u H locs hp hw => ?_)
      obtain ⟨rfl, rfl⟩ := hp
      refine lv_if_eq (tgt := 34) cx.1 cx.2.1 dX12_product_11 (by decide) (fun c11 => ?_) (fun c11 => ?_)
      · have h := md_ip c11 h
        obtain rfl := Option.some.inj h
        exact K _ _ _ hw (lv_sub hl [1] rfl)
      · have h := md_in c11 h
        refine lv_aload_n cx.1 cx.2.1 dX12_product_14 rfl (lv_at hl 0 rfl) ?_
        refine lv_bipush (v := 13) cx.1 cx.2.1 dX12_product_15 (by decide) ?_
        refine lv_iload_n cx.1 cx.2.1 dX12_product_17 rfl (lv_at hl 1 rfl) ?_
        obtain ⟨p3, e_p3, h⟩ := md_ob h
        refine hp_callVi (As := [.int 13, .int l1]) (rest := []) cx hw (km_X12_operation l D cA E _ ad hj hE n p2.2 (13 : Int32) l1 p3 e_p3) (cwV 2 cx.2.2.2.2.2.1 (md_giV mm_347 mm_348 mm_349 mm_5 mm_350) rfl rfl rfl hd_X12_operation ⟨by dsimp only; omega, by dsimp only; omega⟩) md_at0 rfl rfl hl.1 rfl (Nat.le_of_ble_eq_true rfl) dX12_product_18 ⟨Nat.le_refl _, Nat.le_refl _⟩ (fun r u H locs hp hw => ?_)
        obtain ⟨rfl, rfl⟩ := hp
        refine lv_istore_n (lv' := [(1, .int p3.1), (0, .ref (ad 137))]) cx.1 cx.2.1 dX12_product_21 rfl hl (by decide) rfl (fun ls hl => ?_)
        refine lv_aload_n cx.1 cx.2.1 dX12_product_22 rfl (lv_at hl 1 rfl) ?_
        refine lv_iload_n cx.1 cx.2.1 dX12_product_23 rfl (lv_at hl 0 rfl) ?_
        refine lv_aload_n cx.1 cx.2.1 dX12_product_24 rfl (lv_at hl 1 rfl) ?_
        obtain ⟨p4, e_p4, h⟩ := md_ob h
        refine hp_callVi (As := []) (rest := [.int p3.1, .ref (ad 137)]) cx hw (ih5 _ p3.2  p4 e_p4) (cwV 0 cx.2.2.2.2.2.1 (md_giV mm_343 mm_344 mm_345 mm_5 mm_346) rfl rfl rfl hd_X12_anyPrefix ⟨by dsimp only; omega, by dsimp only; omega⟩) md_at0 rfl rfl hl.1 rfl (Nat.le_of_ble_eq_true rfl) dX12_product_25 ⟨Nat.le_refl _, Nat.le_refl _⟩ (fun r u H locs hp hw => ?_)
        obtain ⟨rfl, rfl⟩ := hp
        obtain ⟨p5, e_p5, h⟩ := md_ob h
        refine hp_callVv (As := [.int p3.1, .int p4.1]) (rest := []) cx hw (km_X12_gets l D cA E _ ad hj hE n p4.2 (p3.1) (p4.1) p5 e_p5) (cwV 2 cx.2.2.2.2.2.1 (md_giV mm_199 mm_200 mm_201 mm_5 mm_202) rfl rfl rfl hd_X12_gets ⟨by dsimp only; omega, by dsimp only; omega⟩) md_at0 rfl rfl hl.1 rfl (Nat.le_of_ble_eq_true rfl) dX12_product_28 ⟨Nat.le_refl _, Nat.le_refl _⟩ (fun u H locs hp hw => ?_)
        obtain rfl := hp
        refine lv_goto (tgt := 5) cx.1 cx.2.1 dX12_product_31 (by decide) ?_
        exact ih p5.2 (p3.1) q _ _ _ h hw (lv_sub hl [1, 0] rfl) K
  obtain ⟨q6, e_q6, h⟩ := md_ob h
  refine L5 n p1.2 (p1.1) q6 _ _ _ e_q6 hw (lv_sub hl [1, 0] rfl) (fun H locs ls hw hl => ?_)
  refine lv_iload_n cx.1 cx.2.1 dX12_product_34 rfl (lv_at hl 0 rfl) ?_
  exact hp_iret cx hw (md_ret h) dX12_product_35
set_option maxHeartbeats 4000000 in
set_option maxRecDepth 100000 in
theorem km_X12_sum (l : Launch) (D : va_G) (cA : Nat → ClassId) (E : hp_N) (sz : Nat) (ad : Nat → Nat) (hj : md_inj ad) (hE : md_E E) (n d : Nat) (rec : md_R) (ih4 : ∀ (sz : Nat) (σ : md_S) (p : Int32 × md_S), rec 4 0 0 0 σ = some p → Met l yX12_product (Cond.code yX12_product cX12_product 2 (some .int) :: v_MOD) ({ frames := d + 10, cells := 0, slots := 0, locals := 25 * d + 244 }) (hp_Pc D vwCl (hp_Tl cA) E sz (md_pic cA ad σ) [.ref (ad 137)]) (hp_Qi D vwCl (hp_Tl cA) sz (md_pic cA ad σ) (fun r u => r = p.1 ∧ u = md_pic cA ad p.2)) 0 0 (hp_A (md_pic cA ad σ) sz)) (σ0 : md_S) (p : (Int32 × md_S)) (h : f_X12_sum n rec σ0 = some p) : Met l yX12_sum (Cond.code yX12_sum cX12_sum 2 (some .int) :: v_MOD) ({ frames := (d + 1) + 10, cells := 0, slots := 0, locals := 25 * ((d + 1)) + 244 }) (hp_Pc D vwCl (hp_Tl cA) E sz (md_pic cA ad σ0) [.ref (ad 137)]) (hp_Qi D vwCl (hp_Tl cA) sz (md_pic cA ad σ0) (fun r u => r = p.1 ∧ u = md_pic cA ad p.2)) 0 0 (hp_A (md_pic cA ad σ0) sz) := by
  refine hp_ofW (cc := cX12_sum) (maxL := 2) (ret := (some .int)) (by decide) rfl (Nat.le_of_ble_eq_true rfl) ?_
  intro pp ee ss mm bb mt cd ls cx hsz hw hl
  have hl : lv_has ls 2 [(0, .ref (ad 137))] := hl
  refine lv_aload_n cx.1 cx.2.1 dX12_sum_0 rfl (lv_at hl 0 rfl) ?_
  obtain ⟨p1, e_p1, h⟩ := md_ob h
  refine hp_callVi (As := []) (rest := []) cx hw (ih4 _ σ0  p1 e_p1) (cwV 0 cx.2.2.2.2.2.1 (md_giV mm_351 mm_352 mm_353 mm_5 mm_354) rfl rfl rfl hd_X12_product ⟨by dsimp only; omega, by dsimp only; omega⟩) md_at0 rfl rfl hl.1 rfl (Nat.le_of_ble_eq_true rfl) dX12_sum_1 ⟨Nat.le_refl _, Nat.le_refl _⟩ (fun r u H locs hp hw => ?_)
  obtain ⟨rfl, rfl⟩ := hp
  refine lv_istore_n (lv' := [(1, .int p1.1), (0, .ref (ad 137))]) cx.1 cx.2.1 dX12_sum_4 rfl hl (by decide) rfl (fun ls hl => ?_)
  have L5 : ∀ (j : Nat) (σ : md_S) (l1 : Int32) (q : (md_S × Int32)) (H : Heap) (locs : List Loc) (ls : Array Slot), f_X12_sum_L5 n rec j σ l1 = some q → hp_w D vwCl (hp_Tl cA) E (hp_A (md_pic cA ad σ0) sz) ss H locs (md_pic cA ad σ) → lv_has ls 2 [(0, .ref (ad 137)), (1, .int l1)] → (∀ (H : Heap) (locs : List Loc) (ls : Array Slot), hp_w D vwCl (hp_Tl cA) E (hp_A (md_pic cA ad σ0) sz) ss H locs (md_pic cA ad q.1) → lv_has ls 2 [(1, .int q.2)] → W pp l ee ({ frames := (d + 1) + 10, cells := 0, slots := 0, locals := 25 * ((d + 1)) + 244 }) ss mm [.ref (ad 137)].toArray bb mt cd H locs 0 0 (MQ bb (hp_Qi D vwCl (hp_Tl cA) sz (md_pic cA ad σ0) (fun r u => r = p.1 ∧ u = md_pic cA ad p.2)) [.ref (ad 137)].toArray ss 0 0 (hp_A (md_pic cA ad σ0) sz)) (F0 mm 57 ls [])) → W pp l ee ({ frames := (d + 1) + 10, cells := 0, slots := 0, locals := 25 * ((d + 1)) + 244 }) ss mm [.ref (ad 137)].toArray bb mt cd H locs 0 0 (MQ bb (hp_Qi D vwCl (hp_Tl cA) sz (md_pic cA ad σ0) (fun r u => r = p.1 ∧ u = md_pic cA ad p.2)) [.ref (ad 137)].toArray ss 0 0 (hp_A (md_pic cA ad σ0) sz)) (F0 mm 5 ls []) := by
    intro j
    induction j with
    | zero => intro σ l1 q H locs ls h; exact nomatch h
    | succ j ih =>
      intro σ l1 q H locs ls h hw hl K
      have J40 : ∀ (σ : md_S) (l1 : Int32) (t0 : Int32) (H : Heap) (locs : List Loc) (ls : Array Slot), f_X12_sum_J40 n rec (f_X12_sum_L5 n rec j) σ l1 t0 = some q → hp_w D vwCl (hp_Tl cA) E (hp_A (md_pic cA ad σ0) sz) ss H locs (md_pic cA ad σ) → lv_has ls 2 [(0, .ref (ad 137)), (1, .int l1)] → W pp l ee ({ frames := (d + 1) + 10, cells := 0, slots := 0, locals := 25 * ((d + 1)) + 244 }) ss mm [.ref (ad 137)].toArray bb mt cd H locs 0 0 (MQ bb (hp_Qi D vwCl (hp_Tl cA) sz (md_pic cA ad σ0) (fun r u => r = p.1 ∧ u = md_pic cA ad p.2)) [.ref (ad 137)].toArray ss 0 0 (hp_A (md_pic cA ad σ0) sz)) (F0 mm 40 ls [.int t0, .ref (ad 137)]) := by
        intro σ l1 t0 H locs ls h hw hl
        refine lv_iload_n cx.1 cx.2.1 dX12_sum_40 rfl (lv_at hl 1 rfl) ?_
        obtain ⟨p2, e_p2, h⟩ := md_ob h
        refine hp_callVi (As := [.int t0, .int l1]) (rest := []) cx hw (km_X12_operation l D cA E _ ad hj hE n σ t0 l1 p2 e_p2) (cwV 2 cx.2.2.2.2.2.1 (md_giV mm_347 mm_348 mm_349 mm_5 mm_350) rfl rfl rfl hd_X12_operation ⟨by dsimp only; omega, by dsimp only; omega⟩) md_at0 rfl rfl hl.1 rfl (Nat.le_of_ble_eq_true rfl) dX12_sum_41 ⟨Nat.le_refl _, Nat.le_refl _⟩ (fun r u H locs hp hw => ?_)
        obtain ⟨rfl, rfl⟩ := hp
        refine lv_istore_n (lv' := [(1, .int p2.1), (0, .ref (ad 137))]) cx.1 cx.2.1 dX12_sum_44 rfl hl (by decide) rfl (fun ls hl => ?_)
        refine lv_aload_n cx.1 cx.2.1 dX12_sum_45 rfl (lv_at hl 1 rfl) ?_
        refine lv_iload_n cx.1 cx.2.1 dX12_sum_46 rfl (lv_at hl 0 rfl) ?_
        refine lv_aload_n cx.1 cx.2.1 dX12_sum_47 rfl (lv_at hl 1 rfl) ?_
        obtain ⟨p3, e_p3, h⟩ := md_ob h
        refine hp_callVi (As := []) (rest := [.int p2.1, .ref (ad 137)]) cx hw (ih4 _ p2.2  p3 e_p3) (cwV 0 cx.2.2.2.2.2.1 (md_giV mm_351 mm_352 mm_353 mm_5 mm_354) rfl rfl rfl hd_X12_product ⟨by dsimp only; omega, by dsimp only; omega⟩) md_at0 rfl rfl hl.1 rfl (Nat.le_of_ble_eq_true rfl) dX12_sum_48 ⟨Nat.le_refl _, Nat.le_refl _⟩ (fun r u H locs hp hw => ?_)
        obtain ⟨rfl, rfl⟩ := hp
        obtain ⟨p4, e_p4, h⟩ := md_ob h
        refine hp_callVv (As := [.int p2.1, .int p3.1]) (rest := []) cx hw (km_X12_gets l D cA E _ ad hj hE n p3.2 (p2.1) (p3.1) p4 e_p4) (cwV 2 cx.2.2.2.2.2.1 (md_giV mm_199 mm_200 mm_201 mm_5 mm_202) rfl rfl rfl hd_X12_gets ⟨by dsimp only; omega, by dsimp only; omega⟩) md_at0 rfl rfl hl.1 rfl (Nat.le_of_ble_eq_true rfl) dX12_sum_51 ⟨Nat.le_refl _, Nat.le_refl _⟩ (fun u H locs hp hw => ?_)
        obtain rfl := hp
        refine lv_goto (tgt := 5) cx.1 cx.2.1 dX12_sum_54 (by decide) ?_
        exact ih p4.2 (p2.1) q _ _ _ h hw (lv_sub hl [1, 0] rfl) K
      have J23 : ∀ (σ : md_S) (l1 : Int32) (H : Heap) (locs : List Loc) (ls : Array Slot), f_X12_sum_J23 n rec (f_X12_sum_L5 n rec j) σ l1 = some q → hp_w D vwCl (hp_Tl cA) E (hp_A (md_pic cA ad σ0) sz) ss H locs (md_pic cA ad σ) → lv_has ls 2 [(0, .ref (ad 137)), (1, .int l1)] → W pp l ee ({ frames := (d + 1) + 10, cells := 0, slots := 0, locals := 25 * ((d + 1)) + 244 }) ss mm [.ref (ad 137)].toArray bb mt cd H locs 0 0 (MQ bb (hp_Qi D vwCl (hp_Tl cA) sz (md_pic cA ad σ0) (fun r u => r = p.1 ∧ u = md_pic cA ad p.2)) [.ref (ad 137)].toArray ss 0 0 (hp_A (md_pic cA ad σ0) sz)) (F0 mm 23 ls []) := by
        intro σ l1 H locs ls h hw hl
        refine lv_aload_n cx.1 cx.2.1 dX12_sum_23 rfl (lv_at hl 0 rfl) ?_
        refine lv_aload_n cx.1 cx.2.1 dX12_sum_24 rfl (lv_at hl 0 rfl) ?_
        refine md_gI (k := 11) cx hw hin12c rfl (by decide) (List.mem_cons_of_mem _ mm_53) dX12_sum_25 ?_
        refine lv_bipush (v := 43) cx.1 cx.2.1 dX12_sum_28 (by decide) ?_
        refine lv_icmp_ne (tgt := 38) cx.1 cx.2.1 dX12_sum_30 (by decide) (fun c30 => ?_) (fun c30 => ?_)
        · have h := md_in c30 h
          refine lv_bipush (v := 12) cx.1 cx.2.1 dX12_sum_38 (by decide) ?_
          exact J40 σ l1 12 _ _ _ h hw (lv_sub hl [0, 1] rfl)
        · have h := md_ip c30 h
          refine lv_bipush (v := 11) cx.1 cx.2.1 dX12_sum_33 (by decide) ?_
          refine lv_goto (tgt := 40) cx.1 cx.2.1 dX12_sum_35 (by decide) ?_
          exact J40 σ l1 11 _ _ _ h hw (lv_sub hl [0, 1] rfl)
      refine lv_aload_n cx.1 cx.2.1 dX12_sum_5 rfl (lv_at hl 0 rfl) ?_
      refine lv_bipush (v := 43) cx.1 cx.2.1 dX12_sum_6 (by decide) ?_
      obtain ⟨p5, e_p5, h⟩ := md_ob h
      refine hp_callVi (As := [.int 43]) (rest := []) cx hw (km_X12_isSign l D cA E _ ad hj hE n σ (43 : Int32) p5 e_p5) (cwV 1 cx.2.2.2.2.2.1 (md_giV mm_84 mm_85 mm_86 mm_5 mm_87) rfl rfl rfl hd_X12_isSign ⟨by dsimp only; omega, by dsimp only; omega⟩) md_at0 rfl rfl hl.1 rfl (Nat.le_of_ble_eq_true rfl) dX12_sum_8 ⟨Nat.le_refl _, Nat.le_refl _⟩ (fun r u H locs hp hw => ?_)
      obtain ⟨rfl, rfl⟩ := hp
      refine lv_if_ne (tgt := 23) cx.1 cx.2.1 dX12_sum_11 (by decide) (fun c11 => ?_) (fun c11 => ?_)
      · have h := md_in c11 h
        exact J23 p5.2 l1 _ _ _ h hw (lv_sub hl [0, 1] rfl)
      · have h := md_ip c11 h
        refine lv_aload_n cx.1 cx.2.1 dX12_sum_14 rfl (lv_at hl 0 rfl) ?_
        refine lv_bipush (v := 45) cx.1 cx.2.1 dX12_sum_15 (by decide) ?_
        obtain ⟨p6, e_p6, h⟩ := md_ob h
        refine hp_callVi (As := [.int 45]) (rest := []) cx hw (km_X12_isSign l D cA E _ ad hj hE n p5.2 (45 : Int32) p6 e_p6) (cwV 1 cx.2.2.2.2.2.1 (md_giV mm_84 mm_85 mm_86 mm_5 mm_87) rfl rfl rfl hd_X12_isSign ⟨by dsimp only; omega, by dsimp only; omega⟩) md_at0 rfl rfl hl.1 rfl (Nat.le_of_ble_eq_true rfl) dX12_sum_17 ⟨Nat.le_refl _, Nat.le_refl _⟩ (fun r u H locs hp hw => ?_)
        obtain ⟨rfl, rfl⟩ := hp
        refine lv_if_eq (tgt := 57) cx.1 cx.2.1 dX12_sum_20 (by decide) (fun c20 => ?_) (fun c20 => ?_)
        · have h := md_ip c20 h
          obtain rfl := Option.some.inj h
          exact K _ _ _ hw (lv_sub hl [1] rfl)
        · have h := md_in c20 h
          exact J23 p6.2 l1 _ _ _ h hw (lv_sub hl [0, 1] rfl)
  obtain ⟨q7, e_q7, h⟩ := md_ob h
  refine L5 n p1.2 (p1.1) q7 _ _ _ e_q7 hw (lv_sub hl [1, 0] rfl) (fun H locs ls hw hl => ?_)
  refine lv_iload_n cx.1 cx.2.1 dX12_sum_57 rfl (lv_at hl 0 rfl) ?_
  exact hp_iret cx hw (md_ret h) dX12_sum_58
set_option maxHeartbeats 4000000 in
set_option maxRecDepth 100000 in
theorem km_X12_tryE (l : Launch) (D : va_G) (cA : Nat → ClassId) (E : hp_N) (sz : Nat) (ad : Nat → Nat) (hj : md_inj ad) (hE : md_E E) (n d : Nat) (rec : md_R) (ih7 : ∀ (sz : Nat) (σ : md_S) (b0 : Int32) (b1 : Int32) (p : Int32 × md_S), rec 7 b0 b1 0 σ = some p → Met l yX12_around (Cond.code yX12_around cX12_around 3 none :: v_MOD) ({ frames := d + 10, cells := 0, slots := 0, locals := 25 * d + 244 }) (hp_Pc D vwCl (hp_Tl cA) E sz (md_pic cA ad σ) [.ref (ad 137), .int b0, .int b1]) (hp_Qv D vwCl (hp_Tl cA) sz (md_pic cA ad σ) (fun u => u = md_pic cA ad p.2)) 0 0 (hp_A (md_pic cA ad σ) sz)) (ih0 : ∀ (sz : Nat) (σ : md_S) (p : Int32 × md_S), rec 0 0 0 0 σ = some p → Met l yX12_e (Cond.code yX12_e cX12_e 2 (some .int) :: v_MOD) ({ frames := d + 10, cells := 0, slots := 0, locals := 25 * d + 244 }) (hp_Pc D vwCl (hp_Tl cA) E sz (md_pic cA ad σ) [.ref (ad 137)]) (hp_Qi D vwCl (hp_Tl cA) sz (md_pic cA ad σ) (fun r u => r = p.1 ∧ u = md_pic cA ad p.2)) 0 0 (hp_A (md_pic cA ad σ) sz)) (σ0 : md_S) (p : (Int32 × md_S)) (h : f_X12_tryE n rec σ0 = some p) : Met l yX12_tryE (Cond.code yX12_tryE cX12_tryE 4 (some .int) :: v_MOD) ({ frames := (d + 1) + 10, cells := 0, slots := 0, locals := 25 * ((d + 1)) + 244 }) (hp_Pc D vwCl (hp_Tl cA) E sz (md_pic cA ad σ0) [.ref (ad 137)]) (hp_Qi D vwCl (hp_Tl cA) sz (md_pic cA ad σ0) (fun r u => r = p.1 ∧ u = md_pic cA ad p.2)) 0 0 (hp_A (md_pic cA ad σ0) sz) := by
  refine hp_ofW (cc := cX12_tryE) (maxL := 4) (ret := (some .int)) (by decide) rfl (Nat.le_of_ble_eq_true rfl) ?_
  intro pp ee ss mm bb mt cd ls cx hsz hw hl
  have hl : lv_has ls 4 [(0, .ref (ad 137))] := hl
  refine lv_aload_n cx.1 cx.2.1 dX12_tryE_0 rfl (lv_at hl 0 rfl) ?_
  obtain ⟨p1, e_p1, h⟩ := md_ob h
  refine hp_callVi (As := []) (rest := []) cx hw (km_X12_countsPart l D cA E _ ad hj hE n σ0  p1 e_p1) (cwV 0 cx.2.2.2.2.2.1 (md_giV mm_187 mm_188 mm_189 mm_5 mm_190) rfl rfl rfl hd_X12_countsPart ⟨by dsimp only; omega, by dsimp only; omega⟩) md_at0 rfl rfl hl.1 rfl (Nat.le_of_ble_eq_true rfl) dX12_tryE_1 ⟨Nat.le_refl _, Nat.le_refl _⟩ (fun r u H locs hp hw => ?_)
  obtain ⟨rfl, rfl⟩ := hp
  refine lv_if_ne (tgt := 9) cx.1 cx.2.1 dX12_tryE_4 (by decide) (fun c4 => ?_) (fun c4 => ?_)
  · have h := md_in c4 h
    refine lv_aload_n cx.1 cx.2.1 dX12_tryE_9 rfl (lv_at hl 0 rfl) ?_
    refine lv_bipush (v := 19) cx.1 cx.2.1 dX12_tryE_10 (by decide) ?_
    refine lv_iconst (v := 0) cx.1 cx.2.1 dX12_tryE_12 (by decide) ?_
    refine lv_iconst (v := 0) cx.1 cx.2.1 dX12_tryE_13 (by decide) ?_
    obtain ⟨p2, e_p2, h⟩ := md_ob h
    refine hp_callVi (As := [.int 19, .int 0, .int 0]) (rest := []) cx hw (km_X12_node l D cA E _ ad hj hE n p1.2 (19 : Int32) (0 : Int32) (0 : Int32) p2 e_p2) (cwV 3 cx.2.2.2.2.2.1 (md_giV mm_191 mm_192 mm_193 mm_5 mm_194) rfl rfl rfl hd_X12_node ⟨by dsimp only; omega, by dsimp only; omega⟩) md_at0 rfl rfl hl.1 rfl (Nat.le_of_ble_eq_true rfl) dX12_tryE_14 ⟨Nat.le_refl _, Nat.le_refl _⟩ (fun r u H locs hp hw => ?_)
    obtain ⟨rfl, rfl⟩ := hp
    refine lv_istore_n (lv' := [(1, .int p2.1), (0, .ref (ad 137))]) cx.1 cx.2.1 dX12_tryE_17 rfl hl (by decide) rfl (fun ls hl => ?_)
    refine lv_aload_n cx.1 cx.2.1 dX12_tryE_18 rfl (lv_at hl 1 rfl) ?_
    obtain ⟨p3, e_p3, h⟩ := md_ob h
    refine hp_callVv (As := []) (rest := []) cx hw (km_X12_next l D cA E _ ad hj hE n p2.2  p3 e_p3) (cwV 0 cx.2.2.2.2.2.1 (md_giV mm_92 mm_93 mm_94 mm_5 mm_95) rfl rfl rfl hd_X12_next ⟨by dsimp only; omega, by dsimp only; omega⟩) md_at0 rfl rfl hl.1 rfl (Nat.le_of_ble_eq_true rfl) dX12_tryE_19 ⟨Nat.le_refl _, Nat.le_refl _⟩ (fun u H locs hp hw => ?_)
    obtain rfl := hp
    refine lv_aload_n cx.1 cx.2.1 dX12_tryE_22 rfl (lv_at hl 1 rfl) ?_
    refine lv_iload_n cx.1 cx.2.1 dX12_tryE_23 rfl (lv_at hl 0 rfl) ?_
    refine lv_aload_n cx.1 cx.2.1 dX12_tryE_24 rfl (lv_at hl 1 rfl) ?_
    obtain ⟨p4, e_p4, h⟩ := md_ob h
    refine hp_callVi (As := []) (rest := [.int p2.1, .ref (ad 137)]) cx hw (ih0 _ p3.2  p4 e_p4) (cwV 0 cx.2.2.2.2.2.1 (md_giV mm_195 mm_196 mm_197 mm_5 mm_198) rfl rfl rfl hd_X12_e ⟨by dsimp only; omega, by dsimp only; omega⟩) md_at0 rfl rfl hl.1 rfl (Nat.le_of_ble_eq_true rfl) dX12_tryE_25 ⟨Nat.le_refl _, Nat.le_refl _⟩ (fun r u H locs hp hw => ?_)
    obtain ⟨rfl, rfl⟩ := hp
    obtain ⟨p5, e_p5, h⟩ := md_ob h
    refine hp_callVv (As := [.int p2.1, .int p4.1]) (rest := []) cx hw (km_X12_gets l D cA E _ ad hj hE n p4.2 (p2.1) (p4.1) p5 e_p5) (cwV 2 cx.2.2.2.2.2.1 (md_giV mm_199 mm_200 mm_201 mm_5 mm_202) rfl rfl rfl hd_X12_gets ⟨by dsimp only; omega, by dsimp only; omega⟩) md_at0 rfl rfl hl.1 rfl (Nat.le_of_ble_eq_true rfl) dX12_tryE_28 ⟨Nat.le_refl _, Nat.le_refl _⟩ (fun u H locs hp hw => ?_)
    obtain rfl := hp
    refine lv_aload_n cx.1 cx.2.1 dX12_tryE_31 rfl (lv_at hl 1 rfl) ?_
    refine lv_bipush (v := 9) cx.1 cx.2.1 dX12_tryE_32 (by decide) ?_
    obtain ⟨p6, e_p6, h⟩ := md_ob h
    refine hp_callVi (As := [.int 9]) (rest := []) cx hw (km_X12_isKey l D cA E _ ad hj hE n p5.2 (9 : Int32) p6 e_p6) (cwV 1 cx.2.2.2.2.2.1 (md_giV mm_96 mm_97 mm_98 mm_5 mm_99) rfl rfl rfl hd_X12_isKey ⟨by dsimp only; omega, by dsimp only; omega⟩) md_at0 rfl rfl hl.1 rfl (Nat.le_of_ble_eq_true rfl) dX12_tryE_34 ⟨Nat.le_refl _, Nat.le_refl _⟩ (fun r u H locs hp hw => ?_)
    obtain ⟨rfl, rfl⟩ := hp
    refine lv_if_ne (tgt := 48) cx.1 cx.2.1 dX12_tryE_37 (by decide) (fun c37 => ?_) (fun c37 => ?_)
    · have h := md_in c37 h
      refine lv_aload_n cx.1 cx.2.1 dX12_tryE_48 rfl (lv_at hl 1 rfl) ?_
      refine md_gR (k := 46) cx hw hin12c (by decide) (by decide) (List.mem_cons_of_mem _ mm_219) dX12_tryE_49 ?_
      refine lv_aload_n cx.1 cx.2.1 dX12_tryE_52 rfl (lv_at hl 1 rfl) ?_
      refine md_gI (k := 64) cx hw hin12c rfl (by decide) (List.mem_cons_of_mem _ mm_130) dX12_tryE_53 ?_
      obtain ⟨v7, e_v7, h⟩ := md_ob h
      refine md_lI (k := 46) hj cx hw (by decide) rfl rfl rfl e_v7 dX12_tryE_56 ?_
      refine lv_istore_n (lv' := [(2, .int v7), (1, .int p2.1), (0, .ref (ad 137))]) cx.1 cx.2.1 dX12_tryE_57 rfl hl (by decide) rfl (fun ls hl => ?_)
      refine lv_aload_n cx.1 cx.2.1 dX12_tryE_58 rfl (lv_at hl 2 rfl) ?_
      refine md_gR (k := 46) cx hw hin12c (by decide) (by decide) (List.mem_cons_of_mem _ mm_219) dX12_tryE_59 ?_
      refine lv_aload_n cx.1 cx.2.1 dX12_tryE_62 rfl (lv_at hl 2 rfl) ?_
      refine md_gI (k := 64) cx hw hin12c rfl (by decide) (List.mem_cons_of_mem _ mm_130) dX12_tryE_63 ?_
      refine lv_dup2_11 cx.1 cx.2.1 dX12_tryE_66 rfl rfl ?_
      obtain ⟨v8, e_v8, h⟩ := md_ob h
      refine md_lI (k := 46) hj cx hw (by decide) rfl rfl rfl e_v8 dX12_tryE_67 ?_
      refine lv_iconst (v := 1) cx.1 cx.2.1 dX12_tryE_68 (by decide) ?_
      refine lv_iadd cx.1 cx.2.1 dX12_tryE_69 ?_
      obtain ⟨σ9, e_σ9, h⟩ := md_ob h
      refine md_sI (k := 46) hj cx hw (by decide) rfl rfl rfl e_σ9 dX12_tryE_70 (fun H locs hw => ?_)
      refine lv_aload_n cx.1 cx.2.1 dX12_tryE_71 rfl (lv_at hl 2 rfl) ?_
      obtain ⟨p10, e_p10, h⟩ := md_ob h
      refine hp_callVv (As := []) (rest := []) cx hw (km_X12_next l D cA E _ ad hj hE n σ9  p10 e_p10) (cwV 0 cx.2.2.2.2.2.1 (md_giV mm_92 mm_93 mm_94 mm_5 mm_95) rfl rfl rfl hd_X12_next ⟨by dsimp only; omega, by dsimp only; omega⟩) md_at0 rfl rfl hl.1 rfl (Nat.le_of_ble_eq_true rfl) dX12_tryE_72 ⟨Nat.le_refl _, Nat.le_refl _⟩ (fun u H locs hp hw => ?_)
      obtain rfl := hp
      refine lv_aload_n cx.1 cx.2.1 dX12_tryE_75 rfl (lv_at hl 2 rfl) ?_
      refine lv_iload_n cx.1 cx.2.1 dX12_tryE_76 rfl (lv_at hl 0 rfl) ?_
      obtain ⟨p11, e_p11, h⟩ := md_ob h
      refine hp_callVv (As := [.int v7]) (rest := []) cx hw (km_X12_binds l D cA E _ ad hj hE n p10.2 v7 p11 e_p11) (cwV 1 cx.2.2.2.2.2.1 (md_giV mm_220 mm_221 mm_222 mm_5 mm_223) rfl rfl rfl hd_X12_binds ⟨by dsimp only; omega, by dsimp only; omega⟩) md_at0 rfl rfl hl.1 rfl (Nat.le_of_ble_eq_true rfl) dX12_tryE_77 ⟨Nat.le_refl _, Nat.le_refl _⟩ (fun u H locs hp hw => ?_)
      obtain rfl := hp
      refine lv_aload_n cx.1 cx.2.1 dX12_tryE_80 rfl (lv_at hl 2 rfl) ?_
      refine md_gI (k := 73) cx hw hin12c rfl (by decide) (List.mem_cons_of_mem _ mm_218) dX12_tryE_81 ?_
      refine lv_istore_n (lv' := [(3, .int (mI p11.2 73)), (2, .int v7), (1, .int p2.1), (0, .ref (ad 137))]) cx.1 cx.2.1 dX12_tryE_84 rfl hl (by decide) rfl (fun ls hl => ?_)
      refine lv_aload_n cx.1 cx.2.1 dX12_tryE_85 rfl (lv_at hl 3 rfl) ?_
      refine md_gR (k := 68) cx hw hin12c (by decide) (by decide) (List.mem_cons_of_mem _ mm_131) dX12_tryE_86 ?_
      refine lv_iload_n cx.1 cx.2.1 dX12_tryE_89 rfl (lv_at hl 2 rfl) ?_
      refine lv_iload_n cx.1 cx.2.1 dX12_tryE_90 rfl (lv_at hl 0 rfl) ?_
      obtain ⟨σ12, e_σ12, h⟩ := md_ob h
      refine md_sI (k := 68) hj cx hw (by decide) rfl rfl rfl e_σ12 dX12_tryE_91 (fun H locs hw => ?_)
      refine lv_aload_n cx.1 cx.2.1 dX12_tryE_92 rfl (lv_at hl 3 rfl) ?_
      refine lv_bipush (v := 58) cx.1 cx.2.1 dX12_tryE_93 (by decide) ?_
      obtain ⟨p13, e_p13, h⟩ := md_ob h
      refine hp_callVv (As := [.int 58]) (rest := []) cx hw (km_X12_sign l D cA E _ ad hj hE n σ12 (58 : Int32) p13 e_p13) (cwV 1 cx.2.2.2.2.2.1 (md_giV mm_161 mm_162 mm_163 mm_5 mm_164) rfl rfl rfl hd_X12_sign ⟨by dsimp only; omega, by dsimp only; omega⟩) md_at0 rfl rfl hl.1 rfl (Nat.le_of_ble_eq_true rfl) dX12_tryE_95 ⟨Nat.le_refl _, Nat.le_refl _⟩ (fun u H locs hp hw => ?_)
      obtain rfl := hp
      refine lv_aload_n cx.1 cx.2.1 dX12_tryE_98 rfl (lv_at hl 3 rfl) ?_
      refine lv_iload_n cx.1 cx.2.1 dX12_tryE_99 rfl (lv_at hl 0 rfl) ?_
      refine lv_iload_n cx.1 cx.2.1 dX12_tryE_100 rfl (lv_at hl 2 rfl) ?_
      obtain ⟨p14, e_p14, h⟩ := md_ob h
      refine hp_callVv (As := [.int (mI p11.2 73), .int p2.1]) (rest := []) cx hw (ih7 _ p13.2 ((mI p11.2 73)) (p2.1) p14 e_p14) (cwV 2 cx.2.2.2.2.2.1 (md_giV mm_224 mm_225 mm_226 mm_5 mm_227) rfl rfl rfl hd_X12_around ⟨by dsimp only; omega, by dsimp only; omega⟩) md_at0 rfl rfl hl.1 rfl (Nat.le_of_ble_eq_true rfl) dX12_tryE_101 ⟨Nat.le_refl _, Nat.le_refl _⟩ (fun u H locs hp hw => ?_)
      obtain rfl := hp
      refine lv_iload_n cx.1 cx.2.1 dX12_tryE_104 rfl (lv_at hl 2 rfl) ?_
      exact hp_iret cx hw (md_ret h) dX12_tryE_105
    · have h := md_ip c37 h
      refine lv_aload_n cx.1 cx.2.1 dX12_tryE_40 rfl (lv_at hl 1 rfl) ?_
      refine lv_bipush (v := 9) cx.1 cx.2.1 dX12_tryE_41 (by decide) ?_
      obtain ⟨p15, e_p15, h⟩ := md_ob h
      refine hp_callVv (As := [.int 9]) (rest := []) cx hw (km_X12_key l D cA E _ ad hj hE n p6.2 (9 : Int32) p15 e_p15) (cwV 1 cx.2.2.2.2.2.1 (md_giV mm_203 mm_204 mm_205 mm_5 mm_206) rfl rfl rfl hd_X12_key ⟨by dsimp only; omega, by dsimp only; omega⟩) md_at0 rfl rfl hl.1 rfl (Nat.le_of_ble_eq_true rfl) dX12_tryE_43 ⟨Nat.le_refl _, Nat.le_refl _⟩ (fun u H locs hp hw => ?_)
      obtain rfl := hp
      refine lv_iload_n cx.1 cx.2.1 dX12_tryE_46 rfl (lv_at hl 0 rfl) ?_
      exact hp_iret cx hw (md_ret h) dX12_tryE_47
  · have h := md_ip c4 h
    refine lv_iconst (v := 0) cx.1 cx.2.1 dX12_tryE_7 (by decide) ?_
    exact hp_iret cx hw (md_ret h) dX12_tryE_8
set_option maxHeartbeats 4000000 in
set_option maxRecDepth 100000 in
theorem km_X12_wholeE (l : Launch) (D : va_G) (cA : Nat → ClassId) (E : hp_N) (sz : Nat) (ad : Nat → Nat) (hj : md_inj ad) (hE : md_E E) (n d : Nat) (rec : md_R) (ih8 : ∀ (sz : Nat) (σ : md_S) (p : Int32 × md_S), rec 8 0 0 0 σ = some p → Met l yX12_ifE (Cond.code yX12_ifE cX12_ifE 2 (some .int) :: v_MOD) ({ frames := d + 10, cells := 0, slots := 0, locals := 25 * d + 244 }) (hp_Pc D vwCl (hp_Tl cA) E sz (md_pic cA ad σ) [.ref (ad 137)]) (hp_Qi D vwCl (hp_Tl cA) sz (md_pic cA ad σ) (fun r u => r = p.1 ∧ u = md_pic cA ad p.2)) 0 0 (hp_A (md_pic cA ad σ) sz)) (ih6 : ∀ (sz : Nat) (σ : md_S) (p : Int32 × md_S), rec 6 0 0 0 σ = some p → Met l yX12_letE (Cond.code yX12_letE cX12_letE 4 (some .int) :: v_MOD) ({ frames := d + 10, cells := 0, slots := 0, locals := 25 * d + 244 }) (hp_Pc D vwCl (hp_Tl cA) E sz (md_pic cA ad σ) [.ref (ad 137)]) (hp_Qi D vwCl (hp_Tl cA) sz (md_pic cA ad σ) (fun r u => r = p.1 ∧ u = md_pic cA ad p.2)) 0 0 (hp_A (md_pic cA ad σ) sz)) (ih3 : ∀ (sz : Nat) (σ : md_S) (p : Int32 × md_S), rec 3 0 0 0 σ = some p → Met l yX12_sum (Cond.code yX12_sum cX12_sum 2 (some .int) :: v_MOD) ({ frames := d + 10, cells := 0, slots := 0, locals := 25 * d + 244 }) (hp_Pc D vwCl (hp_Tl cA) E sz (md_pic cA ad σ) [.ref (ad 137)]) (hp_Qi D vwCl (hp_Tl cA) sz (md_pic cA ad σ) (fun r u => r = p.1 ∧ u = md_pic cA ad p.2)) 0 0 (hp_A (md_pic cA ad σ) sz)) (ih9 : ∀ (sz : Nat) (σ : md_S) (p : Int32 × md_S), rec 9 0 0 0 σ = some p → Met l yX12_tryE (Cond.code yX12_tryE cX12_tryE 4 (some .int) :: v_MOD) ({ frames := d + 10, cells := 0, slots := 0, locals := 25 * d + 244 }) (hp_Pc D vwCl (hp_Tl cA) E sz (md_pic cA ad σ) [.ref (ad 137)]) (hp_Qi D vwCl (hp_Tl cA) sz (md_pic cA ad σ) (fun r u => r = p.1 ∧ u = md_pic cA ad p.2)) 0 0 (hp_A (md_pic cA ad σ) sz)) (σ0 : md_S) (p : (Int32 × md_S)) (h : f_X12_wholeE n rec σ0 = some p) : Met l yX12_wholeE (Cond.code yX12_wholeE cX12_wholeE 2 (some .int) :: v_MOD) ({ frames := (d + 1) + 10, cells := 0, slots := 0, locals := 25 * ((d + 1)) + 244 }) (hp_Pc D vwCl (hp_Tl cA) E sz (md_pic cA ad σ0) [.ref (ad 137)]) (hp_Qi D vwCl (hp_Tl cA) sz (md_pic cA ad σ0) (fun r u => r = p.1 ∧ u = md_pic cA ad p.2)) 0 0 (hp_A (md_pic cA ad σ0) sz) := by
  refine hp_ofW (cc := cX12_wholeE) (maxL := 2) (ret := (some .int)) (by decide) rfl (Nat.le_of_ble_eq_true rfl) ?_
  intro pp ee ss mm bb mt cd ls cx hsz hw hl
  have hl : lv_has ls 2 [(0, .ref (ad 137))] := hl
  have J81 : ∀ (σ : md_S) (l1 : Int32) (t0 : Int32) (H : Heap) (locs : List Loc) (ls : Array Slot), f_X12_wholeE_J81 n rec σ l1 t0 = some p → hp_w D vwCl (hp_Tl cA) E (hp_A (md_pic cA ad σ0) sz) ss H locs (md_pic cA ad σ) → lv_has ls 2 [(0, .ref (ad 137)), (1, .int l1)] → W pp l ee ({ frames := (d + 1) + 10, cells := 0, slots := 0, locals := 25 * ((d + 1)) + 244 }) ss mm [.ref (ad 137)].toArray bb mt cd H locs 0 0 (MQ bb (hp_Qi D vwCl (hp_Tl cA) sz (md_pic cA ad σ0) (fun r u => r = p.1 ∧ u = md_pic cA ad p.2)) [.ref (ad 137)].toArray ss 0 0 (hp_A (md_pic cA ad σ0) sz)) (F0 mm 81 ls [.int t0, .ref (ad 137)]) := by
    intro σ l1 t0 H locs ls h hw hl
    refine lv_iload_n cx.1 cx.2.1 dX12_wholeE_81 rfl (lv_at hl 1 rfl) ?_
    obtain ⟨p1, e_p1, h⟩ := md_ob h
    refine hp_callVi (As := [.int t0, .int l1]) (rest := []) cx hw (km_X12_operation l D cA E _ ad hj hE n σ t0 l1 p1 e_p1) (cwV 2 cx.2.2.2.2.2.1 (md_giV mm_347 mm_348 mm_349 mm_5 mm_350) rfl rfl rfl hd_X12_operation ⟨by dsimp only; omega, by dsimp only; omega⟩) md_at0 rfl rfl hl.1 rfl (Nat.le_of_ble_eq_true rfl) dX12_wholeE_82 ⟨Nat.le_refl _, Nat.le_refl _⟩ (fun r u H locs hp hw => ?_)
    obtain ⟨rfl, rfl⟩ := hp
    refine lv_istore_n (lv' := [(1, .int p1.1), (0, .ref (ad 137))]) cx.1 cx.2.1 dX12_wholeE_85 rfl hl (by decide) rfl (fun ls hl => ?_)
    refine lv_aload_n cx.1 cx.2.1 dX12_wholeE_86 rfl (lv_at hl 1 rfl) ?_
    refine lv_iload_n cx.1 cx.2.1 dX12_wholeE_87 rfl (lv_at hl 0 rfl) ?_
    refine lv_aload_n cx.1 cx.2.1 dX12_wholeE_88 rfl (lv_at hl 1 rfl) ?_
    obtain ⟨p2, e_p2, h⟩ := md_ob h
    refine hp_callVi (As := []) (rest := [.int p1.1, .ref (ad 137)]) cx hw (ih3 _ p1.2  p2 e_p2) (cwV 0 cx.2.2.2.2.2.1 (md_giV mm_355 mm_356 mm_357 mm_5 mm_358) rfl rfl rfl hd_X12_sum ⟨by dsimp only; omega, by dsimp only; omega⟩) md_at0 rfl rfl hl.1 rfl (Nat.le_of_ble_eq_true rfl) dX12_wholeE_89 ⟨Nat.le_refl _, Nat.le_refl _⟩ (fun r u H locs hp hw => ?_)
    obtain ⟨rfl, rfl⟩ := hp
    obtain ⟨p3, e_p3, h⟩ := md_ob h
    refine hp_callVv (As := [.int p1.1, .int p2.1]) (rest := []) cx hw (km_X12_gets l D cA E _ ad hj hE n p2.2 (p1.1) (p2.1) p3 e_p3) (cwV 2 cx.2.2.2.2.2.1 (md_giV mm_199 mm_200 mm_201 mm_5 mm_202) rfl rfl rfl hd_X12_gets ⟨by dsimp only; omega, by dsimp only; omega⟩) md_at0 rfl rfl hl.1 rfl (Nat.le_of_ble_eq_true rfl) dX12_wholeE_92 ⟨Nat.le_refl _, Nat.le_refl _⟩ (fun u H locs hp hw => ?_)
    obtain rfl := hp
    refine lv_iload_n cx.1 cx.2.1 dX12_wholeE_95 rfl (lv_at hl 0 rfl) ?_
    exact hp_iret cx hw (md_ret h) dX12_wholeE_96
  have J64 : ∀ (σ : md_S) (l1 : Int32) (H : Heap) (locs : List Loc) (ls : Array Slot), f_X12_wholeE_J64 n rec σ l1 = some p → hp_w D vwCl (hp_Tl cA) E (hp_A (md_pic cA ad σ0) sz) ss H locs (md_pic cA ad σ) → lv_has ls 2 [(0, .ref (ad 137)), (1, .int l1)] → W pp l ee ({ frames := (d + 1) + 10, cells := 0, slots := 0, locals := 25 * ((d + 1)) + 244 }) ss mm [.ref (ad 137)].toArray bb mt cd H locs 0 0 (MQ bb (hp_Qi D vwCl (hp_Tl cA) sz (md_pic cA ad σ0) (fun r u => r = p.1 ∧ u = md_pic cA ad p.2)) [.ref (ad 137)].toArray ss 0 0 (hp_A (md_pic cA ad σ0) sz)) (F0 mm 64 ls []) := by
    intro σ l1 H locs ls h hw hl
    refine lv_aload_n cx.1 cx.2.1 dX12_wholeE_64 rfl (lv_at hl 0 rfl) ?_
    refine lv_aload_n cx.1 cx.2.1 dX12_wholeE_65 rfl (lv_at hl 0 rfl) ?_
    refine md_gI (k := 11) cx hw hin12c rfl (by decide) (List.mem_cons_of_mem _ mm_53) dX12_wholeE_66 ?_
    refine lv_bipush (v := 60) cx.1 cx.2.1 dX12_wholeE_69 (by decide) ?_
    refine lv_icmp_ne (tgt := 79) cx.1 cx.2.1 dX12_wholeE_71 (by decide) (fun c71 => ?_) (fun c71 => ?_)
    · have h := md_in c71 h
      refine lv_bipush (v := 15) cx.1 cx.2.1 dX12_wholeE_79 (by decide) ?_
      exact J81 σ l1 15 _ _ _ h hw (lv_sub hl [0, 1] rfl)
    · have h := md_ip c71 h
      refine lv_bipush (v := 14) cx.1 cx.2.1 dX12_wholeE_74 (by decide) ?_
      refine lv_goto (tgt := 81) cx.1 cx.2.1 dX12_wholeE_76 (by decide) ?_
      exact J81 σ l1 14 _ _ _ h hw (lv_sub hl [0, 1] rfl)
  refine lv_aload_n cx.1 cx.2.1 dX12_wholeE_0 rfl (lv_at hl 0 rfl) ?_
  refine lv_iconst (v := 3) cx.1 cx.2.1 dX12_wholeE_1 (by decide) ?_
  obtain ⟨p4, e_p4, h⟩ := md_ob h
  refine hp_callVi (As := [.int 3]) (rest := []) cx hw (km_X12_isKey l D cA E _ ad hj hE n σ0 (3 : Int32) p4 e_p4) (cwV 1 cx.2.2.2.2.2.1 (md_giV mm_96 mm_97 mm_98 mm_5 mm_99) rfl rfl rfl hd_X12_isKey ⟨by dsimp only; omega, by dsimp only; omega⟩) md_at0 rfl rfl hl.1 rfl (Nat.le_of_ble_eq_true rfl) dX12_wholeE_2 ⟨Nat.le_refl _, Nat.le_refl _⟩ (fun r u H locs hp hw => ?_)
  obtain ⟨rfl, rfl⟩ := hp
  refine lv_if_eq (tgt := 13) cx.1 cx.2.1 dX12_wholeE_5 (by decide) (fun c5 => ?_) (fun c5 => ?_)
  · have h := md_ip c5 h
    refine lv_aload_n cx.1 cx.2.1 dX12_wholeE_13 rfl (lv_at hl 0 rfl) ?_
    refine lv_iconst (v := 5) cx.1 cx.2.1 dX12_wholeE_14 (by decide) ?_
    obtain ⟨p5, e_p5, h⟩ := md_ob h
    refine hp_callVi (As := [.int 5]) (rest := []) cx hw (km_X12_isKey l D cA E _ ad hj hE n p4.2 (5 : Int32) p5 e_p5) (cwV 1 cx.2.2.2.2.2.1 (md_giV mm_96 mm_97 mm_98 mm_5 mm_99) rfl rfl rfl hd_X12_isKey ⟨by dsimp only; omega, by dsimp only; omega⟩) md_at0 rfl rfl hl.1 rfl (Nat.le_of_ble_eq_true rfl) dX12_wholeE_15 ⟨Nat.le_refl _, Nat.le_refl _⟩ (fun r u H locs hp hw => ?_)
    obtain ⟨rfl, rfl⟩ := hp
    refine lv_if_eq (tgt := 26) cx.1 cx.2.1 dX12_wholeE_18 (by decide) (fun c18 => ?_) (fun c18 => ?_)
    · have h := md_ip c18 h
      refine lv_aload_n cx.1 cx.2.1 dX12_wholeE_26 rfl (lv_at hl 0 rfl) ?_
      refine lv_bipush (v := 8) cx.1 cx.2.1 dX12_wholeE_27 (by decide) ?_
      obtain ⟨p6, e_p6, h⟩ := md_ob h
      refine hp_callVi (As := [.int 8]) (rest := []) cx hw (km_X12_isKey l D cA E _ ad hj hE n p5.2 (8 : Int32) p6 e_p6) (cwV 1 cx.2.2.2.2.2.1 (md_giV mm_96 mm_97 mm_98 mm_5 mm_99) rfl rfl rfl hd_X12_isKey ⟨by dsimp only; omega, by dsimp only; omega⟩) md_at0 rfl rfl hl.1 rfl (Nat.le_of_ble_eq_true rfl) dX12_wholeE_29 ⟨Nat.le_refl _, Nat.le_refl _⟩ (fun r u H locs hp hw => ?_)
      obtain ⟨rfl, rfl⟩ := hp
      refine lv_if_eq (tgt := 40) cx.1 cx.2.1 dX12_wholeE_32 (by decide) (fun c32 => ?_) (fun c32 => ?_)
      · have h := md_ip c32 h
        refine lv_aload_n cx.1 cx.2.1 dX12_wholeE_40 rfl (lv_at hl 0 rfl) ?_
        obtain ⟨p7, e_p7, h⟩ := md_ob h
        refine hp_callVi (As := []) (rest := []) cx hw (ih3 _ p6.2  p7 e_p7) (cwV 0 cx.2.2.2.2.2.1 (md_giV mm_355 mm_356 mm_357 mm_5 mm_358) rfl rfl rfl hd_X12_sum ⟨by dsimp only; omega, by dsimp only; omega⟩) md_at0 rfl rfl hl.1 rfl (Nat.le_of_ble_eq_true rfl) dX12_wholeE_41 ⟨Nat.le_refl _, Nat.le_refl _⟩ (fun r u H locs hp hw => ?_)
        obtain ⟨rfl, rfl⟩ := hp
        refine lv_istore_n (lv' := [(1, .int p7.1), (0, .ref (ad 137))]) cx.1 cx.2.1 dX12_wholeE_44 rfl hl (by decide) rfl (fun ls hl => ?_)
        refine lv_aload_n cx.1 cx.2.1 dX12_wholeE_45 rfl (lv_at hl 1 rfl) ?_
        refine lv_bipush (v := 60) cx.1 cx.2.1 dX12_wholeE_46 (by decide) ?_
        obtain ⟨p8, e_p8, h⟩ := md_ob h
        refine hp_callVi (As := [.int 60]) (rest := []) cx hw (km_X12_isSign l D cA E _ ad hj hE n p7.2 (60 : Int32) p8 e_p8) (cwV 1 cx.2.2.2.2.2.1 (md_giV mm_84 mm_85 mm_86 mm_5 mm_87) rfl rfl rfl hd_X12_isSign ⟨by dsimp only; omega, by dsimp only; omega⟩) md_at0 rfl rfl hl.1 rfl (Nat.le_of_ble_eq_true rfl) dX12_wholeE_48 ⟨Nat.le_refl _, Nat.le_refl _⟩ (fun r u H locs hp hw => ?_)
        obtain ⟨rfl, rfl⟩ := hp
        refine lv_if_ne (tgt := 64) cx.1 cx.2.1 dX12_wholeE_51 (by decide) (fun c51 => ?_) (fun c51 => ?_)
        · have h := md_in c51 h
          exact J64 p8.2 (p7.1) _ _ _ h hw (lv_sub hl [1, 0] rfl)
        · have h := md_ip c51 h
          refine lv_aload_n cx.1 cx.2.1 dX12_wholeE_54 rfl (lv_at hl 1 rfl) ?_
          refine lv_sipush (v := 257) cx.1 cx.2.1 dX12_wholeE_55 (by decide) ?_
          obtain ⟨p9, e_p9, h⟩ := md_ob h
          refine hp_callVi (As := [.int 257]) (rest := []) cx hw (km_X12_isSign l D cA E _ ad hj hE n p8.2 (257 : Int32) p9 e_p9) (cwV 1 cx.2.2.2.2.2.1 (md_giV mm_84 mm_85 mm_86 mm_5 mm_87) rfl rfl rfl hd_X12_isSign ⟨by dsimp only; omega, by dsimp only; omega⟩) md_at0 rfl rfl hl.1 rfl (Nat.le_of_ble_eq_true rfl) dX12_wholeE_58 ⟨Nat.le_refl _, Nat.le_refl _⟩ (fun r u H locs hp hw => ?_)
          obtain ⟨rfl, rfl⟩ := hp
          refine lv_if_eq (tgt := 95) cx.1 cx.2.1 dX12_wholeE_61 (by decide) (fun c61 => ?_) (fun c61 => ?_)
          · have h := md_ip c61 h
            refine lv_iload_n cx.1 cx.2.1 dX12_wholeE_95 rfl (lv_at hl 0 rfl) ?_
            exact hp_iret cx hw (md_ret h) dX12_wholeE_96
          · have h := md_in c61 h
            exact J64 p9.2 (p7.1) _ _ _ h hw (lv_sub hl [1, 0] rfl)
      · have h := md_in c32 h
        refine lv_aload_n cx.1 cx.2.1 dX12_wholeE_35 rfl (lv_at hl 0 rfl) ?_
        obtain ⟨p10, e_p10, h⟩ := md_ob h
        refine hp_callVi (As := []) (rest := []) cx hw (ih9 _ p6.2  p10 e_p10) (cwV 0 cx.2.2.2.2.2.1 (md_giV mm_359 mm_360 mm_361 mm_5 mm_362) rfl rfl rfl hd_X12_tryE ⟨by dsimp only; omega, by dsimp only; omega⟩) md_at0 rfl rfl hl.1 rfl (Nat.le_of_ble_eq_true rfl) dX12_wholeE_36 ⟨Nat.le_refl _, Nat.le_refl _⟩ (fun r u H locs hp hw => ?_)
        obtain ⟨rfl, rfl⟩ := hp
        exact hp_iret cx hw (md_ret h) dX12_wholeE_39
    · have h := md_in c18 h
      refine lv_aload_n cx.1 cx.2.1 dX12_wholeE_21 rfl (lv_at hl 0 rfl) ?_
      obtain ⟨p11, e_p11, h⟩ := md_ob h
      refine hp_callVi (As := []) (rest := []) cx hw (ih8 _ p5.2  p11 e_p11) (cwV 0 cx.2.2.2.2.2.1 (md_giV mm_363 mm_364 mm_365 mm_5 mm_366) rfl rfl rfl hd_X12_ifE ⟨by dsimp only; omega, by dsimp only; omega⟩) md_at0 rfl rfl hl.1 rfl (Nat.le_of_ble_eq_true rfl) dX12_wholeE_22 ⟨Nat.le_refl _, Nat.le_refl _⟩ (fun r u H locs hp hw => ?_)
      obtain ⟨rfl, rfl⟩ := hp
      exact hp_iret cx hw (md_ret h) dX12_wholeE_25
  · have h := md_in c5 h
    refine lv_aload_n cx.1 cx.2.1 dX12_wholeE_8 rfl (lv_at hl 0 rfl) ?_
    obtain ⟨p12, e_p12, h⟩ := md_ob h
    refine hp_callVi (As := []) (rest := []) cx hw (ih6 _ p4.2  p12 e_p12) (cwV 0 cx.2.2.2.2.2.1 (md_giV mm_367 mm_368 mm_369 mm_5 mm_370) rfl rfl rfl hd_X12_letE ⟨by dsimp only; omega, by dsimp only; omega⟩) md_at0 rfl rfl hl.1 rfl (Nat.le_of_ble_eq_true rfl) dX12_wholeE_9 ⟨Nat.le_refl _, Nat.le_refl _⟩ (fun r u H locs hp hw => ?_)
    obtain ⟨rfl, rfl⟩ := hp
    exact hp_iret cx hw (md_ret h) dX12_wholeE_12
set_option maxHeartbeats 4000000 in
set_option maxRecDepth 100000 in
theorem km_X12_e (l : Launch) (D : va_G) (cA : Nat → ClassId) (E : hp_N) (sz : Nat) (ad : Nat → Nat) (hj : md_inj ad) (hE : md_E E) (n d : Nat) (rec : md_R) (ih2 : ∀ (sz : Nat) (σ : md_S) (p : Int32 × md_S), rec 2 0 0 0 σ = some p → Met l yX12_wholeE (Cond.code yX12_wholeE cX12_wholeE 2 (some .int) :: v_MOD) ({ frames := d + 10, cells := 0, slots := 0, locals := 25 * d + 244 }) (hp_Pc D vwCl (hp_Tl cA) E sz (md_pic cA ad σ) [.ref (ad 137)]) (hp_Qi D vwCl (hp_Tl cA) sz (md_pic cA ad σ) (fun r u => r = p.1 ∧ u = md_pic cA ad p.2)) 0 0 (hp_A (md_pic cA ad σ) sz)) (σ0 : md_S) (p : (Int32 × md_S)) (h : f_X12_e n rec σ0 = some p) : Met l yX12_e (Cond.code yX12_e cX12_e 2 (some .int) :: v_MOD) ({ frames := (d + 1) + 10, cells := 0, slots := 0, locals := 25 * ((d + 1)) + 244 }) (hp_Pc D vwCl (hp_Tl cA) E sz (md_pic cA ad σ0) [.ref (ad 137)]) (hp_Qi D vwCl (hp_Tl cA) sz (md_pic cA ad σ0) (fun r u => r = p.1 ∧ u = md_pic cA ad p.2)) 0 0 (hp_A (md_pic cA ad σ0) sz) := by
  refine hp_ofW (cc := cX12_e) (maxL := 2) (ret := (some .int)) (by decide) rfl (Nat.le_of_ble_eq_true rfl) ?_
  intro pp ee ss mm bb mt cd ls cx hsz hw hl
  have hl : lv_has ls 2 [(0, .ref (ad 137))] := hl
  refine lv_aload_n cx.1 cx.2.1 dX12_e_0 rfl (lv_at hl 0 rfl) ?_
  refine lv_aload_n cx.1 cx.2.1 dX12_e_1 rfl (lv_at hl 0 rfl) ?_
  obtain ⟨p1, e_p1, h⟩ := md_ob h
  refine hp_callVi (As := []) (rest := [.ref (ad 137)]) cx hw (km_X12_beginsE l D cA E _ ad hj hE n σ0  p1 e_p1) (cwV 0 cx.2.2.2.2.2.1 (md_giV mm_236 mm_237 mm_238 mm_5 mm_239) rfl rfl rfl hd_X12_beginsE ⟨by dsimp only; omega, by dsimp only; omega⟩) md_at0 rfl rfl hl.1 rfl (Nat.le_of_ble_eq_true rfl) dX12_e_2 ⟨Nat.le_refl _, Nat.le_refl _⟩ (fun r u H locs hp hw => ?_)
  obtain ⟨rfl, rfl⟩ := hp
  obtain ⟨p2, e_p2, h⟩ := md_ob h
  refine hp_callVi (As := [.int p1.1]) (rest := []) cx hw (km_X12_deeper l D cA E _ ad hj hE n p1.2 (p1.1) p2 e_p2) (cwV 1 cx.2.2.2.2.2.1 (md_giV mm_228 mm_229 mm_230 mm_5 mm_231) rfl rfl rfl hd_X12_deeper ⟨by dsimp only; omega, by dsimp only; omega⟩) md_at0 rfl rfl hl.1 rfl (Nat.le_of_ble_eq_true rfl) dX12_e_5 ⟨Nat.le_refl _, Nat.le_refl _⟩ (fun r u H locs hp hw => ?_)
  obtain ⟨rfl, rfl⟩ := hp
  refine lv_if_ne (tgt := 13) cx.1 cx.2.1 dX12_e_8 (by decide) (fun c8 => ?_) (fun c8 => ?_)
  · have h := md_in c8 h
    refine lv_aload_n cx.1 cx.2.1 dX12_e_13 rfl (lv_at hl 0 rfl) ?_
    obtain ⟨p3, e_p3, h⟩ := md_ob h
    refine hp_callVi (As := []) (rest := []) cx hw (ih2 _ p2.2  p3 e_p3) (cwV 0 cx.2.2.2.2.2.1 (md_giV mm_371 mm_372 mm_373 mm_5 mm_374) rfl rfl rfl hd_X12_wholeE ⟨by dsimp only; omega, by dsimp only; omega⟩) md_at0 rfl rfl hl.1 rfl (Nat.le_of_ble_eq_true rfl) dX12_e_14 ⟨Nat.le_refl _, Nat.le_refl _⟩ (fun r u H locs hp hw => ?_)
    obtain ⟨rfl, rfl⟩ := hp
    refine lv_istore_n (lv' := [(1, .int p3.1), (0, .ref (ad 137))]) cx.1 cx.2.1 dX12_e_17 rfl hl (by decide) rfl (fun ls hl => ?_)
    refine lv_aload_n cx.1 cx.2.1 dX12_e_18 rfl (lv_at hl 1 rfl) ?_
    refine lv_dup cx.1 cx.2.1 dX12_e_19 rfl ?_
    refine md_gI (k := 63) cx hw hin12c rfl (by decide) (List.mem_cons_of_mem _ mm_185) dX12_e_20 ?_
    refine lv_iconst (v := 1) cx.1 cx.2.1 dX12_e_23 (by decide) ?_
    refine lv_isub cx.1 cx.2.1 dX12_e_24 ?_
    obtain ⟨σ4, e_σ4, h⟩ := md_ob h
    refine md_pI (k := 63) cx hw hin12c rfl (by decide) rfl (List.mem_cons_of_mem _ mm_185) rfl e_σ4 dX12_e_25 (fun H locs hw => ?_)
    refine lv_iload_n cx.1 cx.2.1 dX12_e_28 rfl (lv_at hl 0 rfl) ?_
    exact hp_iret cx hw (md_ret h) dX12_e_29
  · have h := md_ip c8 h
    refine lv_iconst (v := 0) cx.1 cx.2.1 dX12_e_11 (by decide) ?_
    exact hp_iret cx hw (md_ret h) dX12_e_12
theorem md_Ge_ok (l : Launch) (D : va_G) (cA : Nat → ClassId) (E : hp_N) (ad : Nat → Nat) (hj : md_inj ad) (hE : md_E E) (n : Nat) : ∀ d : Nat, (∀ (sz : Nat) (σ : md_S) (p : Int32 × md_S), md_Ge n d 0 0 0 0 σ = some p → Met l yX12_e (Cond.code yX12_e cX12_e 2 (some .int) :: v_MOD) ({ frames := d + 10, cells := 0, slots := 0, locals := 25 * d + 244 }) (hp_Pc D vwCl (hp_Tl cA) E sz (md_pic cA ad σ) [.ref (ad 137)]) (hp_Qi D vwCl (hp_Tl cA) sz (md_pic cA ad σ) (fun r u => r = p.1 ∧ u = md_pic cA ad p.2)) 0 0 (hp_A (md_pic cA ad σ) sz)) ∧ (∀ (sz : Nat) (σ : md_S) (p : Int32 × md_S), md_Ge n d 1 0 0 0 σ = some p → Met l yX12_innerPrefix (Cond.code yX12_innerPrefix cX12_innerPrefix 2 (some .int) :: v_MOD) ({ frames := d + 10, cells := 0, slots := 0, locals := 25 * d + 244 }) (hp_Pc D vwCl (hp_Tl cA) E sz (md_pic cA ad σ) [.ref (ad 137)]) (hp_Qi D vwCl (hp_Tl cA) sz (md_pic cA ad σ) (fun r u => r = p.1 ∧ u = md_pic cA ad p.2)) 0 0 (hp_A (md_pic cA ad σ) sz)) ∧ (∀ (sz : Nat) (σ : md_S) (p : Int32 × md_S), md_Ge n d 2 0 0 0 σ = some p → Met l yX12_wholeE (Cond.code yX12_wholeE cX12_wholeE 2 (some .int) :: v_MOD) ({ frames := d + 10, cells := 0, slots := 0, locals := 25 * d + 244 }) (hp_Pc D vwCl (hp_Tl cA) E sz (md_pic cA ad σ) [.ref (ad 137)]) (hp_Qi D vwCl (hp_Tl cA) sz (md_pic cA ad σ) (fun r u => r = p.1 ∧ u = md_pic cA ad p.2)) 0 0 (hp_A (md_pic cA ad σ) sz)) ∧ (∀ (sz : Nat) (σ : md_S) (p : Int32 × md_S), md_Ge n d 3 0 0 0 σ = some p → Met l yX12_sum (Cond.code yX12_sum cX12_sum 2 (some .int) :: v_MOD) ({ frames := d + 10, cells := 0, slots := 0, locals := 25 * d + 244 }) (hp_Pc D vwCl (hp_Tl cA) E sz (md_pic cA ad σ) [.ref (ad 137)]) (hp_Qi D vwCl (hp_Tl cA) sz (md_pic cA ad σ) (fun r u => r = p.1 ∧ u = md_pic cA ad p.2)) 0 0 (hp_A (md_pic cA ad σ) sz)) ∧ (∀ (sz : Nat) (σ : md_S) (p : Int32 × md_S), md_Ge n d 4 0 0 0 σ = some p → Met l yX12_product (Cond.code yX12_product cX12_product 2 (some .int) :: v_MOD) ({ frames := d + 10, cells := 0, slots := 0, locals := 25 * d + 244 }) (hp_Pc D vwCl (hp_Tl cA) E sz (md_pic cA ad σ) [.ref (ad 137)]) (hp_Qi D vwCl (hp_Tl cA) sz (md_pic cA ad σ) (fun r u => r = p.1 ∧ u = md_pic cA ad p.2)) 0 0 (hp_A (md_pic cA ad σ) sz)) ∧ (∀ (sz : Nat) (σ : md_S) (p : Int32 × md_S), md_Ge n d 5 0 0 0 σ = some p → Met l yX12_anyPrefix (Cond.code yX12_anyPrefix cX12_anyPrefix 1 (some .int) :: v_MOD) ({ frames := d + 10, cells := 0, slots := 0, locals := 25 * d + 244 }) (hp_Pc D vwCl (hp_Tl cA) E sz (md_pic cA ad σ) [.ref (ad 137)]) (hp_Qi D vwCl (hp_Tl cA) sz (md_pic cA ad σ) (fun r u => r = p.1 ∧ u = md_pic cA ad p.2)) 0 0 (hp_A (md_pic cA ad σ) sz)) ∧ (∀ (sz : Nat) (σ : md_S) (p : Int32 × md_S), md_Ge n d 6 0 0 0 σ = some p → Met l yX12_letE (Cond.code yX12_letE cX12_letE 4 (some .int) :: v_MOD) ({ frames := d + 10, cells := 0, slots := 0, locals := 25 * d + 244 }) (hp_Pc D vwCl (hp_Tl cA) E sz (md_pic cA ad σ) [.ref (ad 137)]) (hp_Qi D vwCl (hp_Tl cA) sz (md_pic cA ad σ) (fun r u => r = p.1 ∧ u = md_pic cA ad p.2)) 0 0 (hp_A (md_pic cA ad σ) sz)) ∧ (∀ (sz : Nat) (σ : md_S) (b0 : Int32) (b1 : Int32) (p : Int32 × md_S), md_Ge n d 7 b0 b1 0 σ = some p → Met l yX12_around (Cond.code yX12_around cX12_around 3 none :: v_MOD) ({ frames := d + 10, cells := 0, slots := 0, locals := 25 * d + 244 }) (hp_Pc D vwCl (hp_Tl cA) E sz (md_pic cA ad σ) [.ref (ad 137), .int b0, .int b1]) (hp_Qv D vwCl (hp_Tl cA) sz (md_pic cA ad σ) (fun u => u = md_pic cA ad p.2)) 0 0 (hp_A (md_pic cA ad σ) sz)) ∧ (∀ (sz : Nat) (σ : md_S) (p : Int32 × md_S), md_Ge n d 8 0 0 0 σ = some p → Met l yX12_ifE (Cond.code yX12_ifE cX12_ifE 2 (some .int) :: v_MOD) ({ frames := d + 10, cells := 0, slots := 0, locals := 25 * d + 244 }) (hp_Pc D vwCl (hp_Tl cA) E sz (md_pic cA ad σ) [.ref (ad 137)]) (hp_Qi D vwCl (hp_Tl cA) sz (md_pic cA ad σ) (fun r u => r = p.1 ∧ u = md_pic cA ad p.2)) 0 0 (hp_A (md_pic cA ad σ) sz)) ∧ (∀ (sz : Nat) (σ : md_S) (p : Int32 × md_S), md_Ge n d 9 0 0 0 σ = some p → Met l yX12_tryE (Cond.code yX12_tryE cX12_tryE 4 (some .int) :: v_MOD) ({ frames := d + 10, cells := 0, slots := 0, locals := 25 * d + 244 }) (hp_Pc D vwCl (hp_Tl cA) E sz (md_pic cA ad σ) [.ref (ad 137)]) (hp_Qi D vwCl (hp_Tl cA) sz (md_pic cA ad σ) (fun r u => r = p.1 ∧ u = md_pic cA ad p.2)) 0 0 (hp_A (md_pic cA ad σ) sz)) ∧ (∀ (sz : Nat) (σ : md_S) (p : Int32 × md_S), md_Ge n d 10 0 0 0 σ = some p → Met l yX12_prefix (Cond.code yX12_prefix cX12_prefix 2 (some .int) :: v_MOD) ({ frames := d + 10, cells := 0, slots := 0, locals := 25 * d + 244 }) (hp_Pc D vwCl (hp_Tl cA) E sz (md_pic cA ad σ) [.ref (ad 137)]) (hp_Qi D vwCl (hp_Tl cA) sz (md_pic cA ad σ) (fun r u => r = p.1 ∧ u = md_pic cA ad p.2)) 0 0 (hp_A (md_pic cA ad σ) sz)) ∧ (∀ (sz : Nat) (σ : md_S) (p : Int32 × md_S), md_Ge n d 11 0 0 0 σ = some p → Met l yX12_priv (Cond.code yX12_priv cX12_priv 5 (some .int) :: v_MOD) ({ frames := d + 10, cells := 0, slots := 0, locals := 25 * d + 244 }) (hp_Pc D vwCl (hp_Tl cA) E sz (md_pic cA ad σ) [.ref (ad 137)]) (hp_Qi D vwCl (hp_Tl cA) sz (md_pic cA ad σ) (fun r u => r = p.1 ∧ u = md_pic cA ad p.2)) 0 0 (hp_A (md_pic cA ad σ) sz)) ∧ (∀ (sz : Nat) (σ : md_S) (b0 : Int32) (p : Int32 × md_S), md_Ge n d 12 b0 0 0 σ = some p → Met l yX12_bodyOf (Cond.code yX12_bodyOf cX12_bodyOf 4 none :: v_MOD) ({ frames := d + 10, cells := 0, slots := 0, locals := 25 * d + 244 }) (hp_Pc D vwCl (hp_Tl cA) E sz (md_pic cA ad σ) [.ref (ad 137), .int b0]) (hp_Qv D vwCl (hp_Tl cA) sz (md_pic cA ad σ) (fun u => u = md_pic cA ad p.2)) 0 0 (hp_A (md_pic cA ad σ) sz)) ∧ (∀ (sz : Nat) (σ : md_S) (p : Int32 × md_S), md_Ge n d 13 0 0 0 σ = some p → Met l yX12_under (Cond.code yX12_under cX12_under 3 (some .int) :: v_MOD) ({ frames := d + 10, cells := 0, slots := 0, locals := 25 * d + 244 }) (hp_Pc D vwCl (hp_Tl cA) E sz (md_pic cA ad σ) [.ref (ad 137)]) (hp_Qi D vwCl (hp_Tl cA) sz (md_pic cA ad σ) (fun r u => r = p.1 ∧ u = md_pic cA ad p.2)) 0 0 (hp_A (md_pic cA ad σ) sz)) ∧ (∀ (sz : Nat) (σ : md_S) (p : Int32 × md_S), md_Ge n d 14 0 0 0 σ = some p → Met l yX12_postfix (Cond.code yX12_postfix cX12_postfix 4 (some .int) :: v_MOD) ({ frames := d + 10, cells := 0, slots := 0, locals := 25 * d + 244 }) (hp_Pc D vwCl (hp_Tl cA) E sz (md_pic cA ad σ) [.ref (ad 137)]) (hp_Qi D vwCl (hp_Tl cA) sz (md_pic cA ad σ) (fun r u => r = p.1 ∧ u = md_pic cA ad p.2)) 0 0 (hp_A (md_pic cA ad σ) sz)) ∧ (∀ (sz : Nat) (σ : md_S) (b0 : Int32) (p : Int32 × md_S), md_Ge n d 15 b0 0 0 σ = some p → Met l yX12_dotted (Cond.code yX12_dotted cX12_dotted 5 (some .int) :: v_MOD) ({ frames := d + 10, cells := 0, slots := 0, locals := 25 * d + 244 }) (hp_Pc D vwCl (hp_Tl cA) E sz (md_pic cA ad σ) [.ref (ad 137), .int b0]) (hp_Qi D vwCl (hp_Tl cA) sz (md_pic cA ad σ) (fun r u => r = p.1 ∧ u = md_pic cA ad p.2)) 0 0 (hp_A (md_pic cA ad σ) sz)) ∧ (∀ (sz : Nat) (σ : md_S) (b0 : Int32) (p : Int32 × md_S), md_Ge n d 16 b0 0 0 σ = some p → Met l yX12_arguments (Cond.code yX12_arguments cX12_arguments 4 (some .int) :: v_MOD) ({ frames := d + 10, cells := 0, slots := 0, locals := 25 * d + 244 }) (hp_Pc D vwCl (hp_Tl cA) E sz (md_pic cA ad σ) [.ref (ad 137), .int b0]) (hp_Qi D vwCl (hp_Tl cA) sz (md_pic cA ad σ) (fun r u => r = p.1 ∧ u = md_pic cA ad p.2)) 0 0 (hp_A (md_pic cA ad σ) sz)) ∧ (∀ (sz : Nat) (σ : md_S) (p : Int32 × md_S), md_Ge n d 17 0 0 0 σ = some p → Met l yX12_atom (Cond.code yX12_atom cX12_atom 2 (some .int) :: v_MOD) ({ frames := d + 10, cells := 0, slots := 0, locals := 25 * d + 244 }) (hp_Pc D vwCl (hp_Tl cA) E sz (md_pic cA ad σ) [.ref (ad 137)]) (hp_Qi D vwCl (hp_Tl cA) sz (md_pic cA ad σ) (fun r u => r = p.1 ∧ u = md_pic cA ad p.2)) 0 0 (hp_A (md_pic cA ad σ) sz)) ∧ (∀ (sz : Nat) (σ : md_S) (p : Int32 × md_S), md_Ge n d 18 0 0 0 σ = some p → Met l yX12_fun (Cond.code yX12_fun cX12_fun 6 (some .int) :: v_MOD) ({ frames := d + 10, cells := 0, slots := 0, locals := 25 * d + 244 }) (hp_Pc D vwCl (hp_Tl cA) E sz (md_pic cA ad σ) [.ref (ad 137)]) (hp_Qi D vwCl (hp_Tl cA) sz (md_pic cA ad σ) (fun r u => r = p.1 ∧ u = md_pic cA ad p.2)) 0 0 (hp_A (md_pic cA ad σ) sz)) ∧ (∀ (sz : Nat) (σ : md_S) (p : Int32 × md_S), md_Ge n d 19 0 0 0 σ = some p → Met l yX12_row (Cond.code yX12_row cX12_row 3 (some .int) :: v_MOD) ({ frames := d + 10, cells := 0, slots := 0, locals := 25 * d + 244 }) (hp_Pc D vwCl (hp_Tl cA) E sz (md_pic cA ad σ) [.ref (ad 137)]) (hp_Qi D vwCl (hp_Tl cA) sz (md_pic cA ad σ) (fun r u => r = p.1 ∧ u = md_pic cA ad p.2)) 0 0 (hp_A (md_pic cA ad σ) sz)) ∧ (∀ (sz : Nat) (σ : md_S) (p : Int32 × md_S), md_Ge n d 20 0 0 0 σ = some p → Met l yX12_asking (Cond.code yX12_asking cX12_asking 3 (some .int) :: v_MOD) ({ frames := d + 10, cells := 0, slots := 0, locals := 25 * d + 244 }) (hp_Pc D vwCl (hp_Tl cA) E sz (md_pic cA ad σ) [.ref (ad 137)]) (hp_Qi D vwCl (hp_Tl cA) sz (md_pic cA ad σ) (fun r u => r = p.1 ∧ u = md_pic cA ad p.2)) 0 0 (hp_A (md_pic cA ad σ) sz)) := by
  intro d
  induction d with
  | zero => exact ⟨(fun _ _ _ h => nomatch h), (fun _ _ _ h => nomatch h), (fun _ _ _ h => nomatch h), (fun _ _ _ h => nomatch h), (fun _ _ _ h => nomatch h), (fun _ _ _ h => nomatch h), (fun _ _ _ h => nomatch h), (fun _ _ _ _ _ h => nomatch h), (fun _ _ _ h => nomatch h), (fun _ _ _ h => nomatch h), (fun _ _ _ h => nomatch h), (fun _ _ _ h => nomatch h), (fun _ _ _ _ h => nomatch h), (fun _ _ _ h => nomatch h), (fun _ _ _ h => nomatch h), (fun _ _ _ _ h => nomatch h), (fun _ _ _ _ h => nomatch h), (fun _ _ _ h => nomatch h), (fun _ _ _ h => nomatch h), (fun _ _ _ h => nomatch h), (fun _ _ _ h => nomatch h)⟩
  | succ d ih =>
    obtain ⟨i0, i1, i2, i3, i4, i5, i6, i7, i8, i9, i10, i11, i12, i13, i14, i15, i16, i17, i18, i19, i20⟩ := ih
    refine ⟨?_, ?_, ?_, ?_, ?_, ?_, ?_, ?_, ?_, ?_, ?_, ?_, ?_, ?_, ?_, ?_, ?_, ?_, ?_, ?_, ?_⟩
    · intro sz σ p h
      exact km_X12_e l D cA E sz ad hj hE n d _ i2 σ p h
    · intro sz σ p h
      exact km_X12_innerPrefix l D cA E sz ad hj hE n d _ i10 σ p h
    · intro sz σ p h
      exact km_X12_wholeE l D cA E sz ad hj hE n d _ i8 i6 i3 i9 σ p h
    · intro sz σ p h
      exact km_X12_sum l D cA E sz ad hj hE n d _ i4 σ p h
    · intro sz σ p h
      exact km_X12_product l D cA E sz ad hj hE n d _ i5 σ p h
    · intro sz σ p h
      exact km_X12_anyPrefix l D cA E sz ad hj hE n d _ i10 σ p h
    · intro sz σ p h
      exact km_X12_letE l D cA E sz ad hj hE n d _ i7 i0 σ p h
    · intro sz σ a b p h
      exact km_X12_around l D cA E sz ad hj hE n d _ i0 σ a b p h
    · intro sz σ p h
      exact km_X12_ifE l D cA E sz ad hj hE n d _ i0 σ p h
    · intro sz σ p h
      exact km_X12_tryE l D cA E sz ad hj hE n d _ i7 i0 σ p h
    · intro sz σ p h
      exact km_X12_prefix l D cA E sz ad hj hE n d _ i1 i14 i11 i13 σ p h
    · intro sz σ p h
      exact km_X12_priv l D cA E sz ad hj hE n d _ i12 σ p h
    · intro sz σ a p h
      exact km_X12_bodyOf l D cA E sz ad hj hE n d _ i1 σ a p h
    · intro sz σ p h
      exact km_X12_under l D cA E sz ad hj hE n d _ i12 i1 σ p h
    · intro sz σ p h
      exact km_X12_postfix l D cA E sz ad hj hE n d _ i16 i17 i15 σ p h
    · intro sz σ a p h
      exact km_X12_dotted l D cA E sz ad hj hE n d _ i16 i1 σ a p h
    · intro sz σ a p h
      exact km_X12_arguments l D cA E sz ad hj hE n d _ i0 σ a p h
    · intro sz σ p h
      exact km_X12_atom l D cA E sz ad hj hE n d _ i20 i0 i18 i19 σ p h
    · intro sz σ p h
      exact km_X12_fun l D cA E sz ad hj hE n d _ i19 σ p h
    · intro sz σ p h
      exact km_X12_row l D cA E sz ad hj hE n d _ i0 σ p h
    · intro sz σ p h
      exact km_X12_asking l D cA E sz ad hj hE n d _ i0 σ p h
theorem og_X12_e (l : Launch) (D : va_G) (cA : Nat → ClassId) (E : hp_N) (ad : Nat → Nat) (hj : md_inj ad) (hE : md_E E) (n : Nat) : ∀ (sz : Nat) (σ : md_S) (p : Int32 × md_S), md_Ge n 400 0 0 0 0 σ = some p → Met l yX12_e (Cond.code yX12_e cX12_e 2 (some .int) :: v_MOD) ({ frames := 400 + 10, cells := 0, slots := 0, locals := 25 * 400 + 244 }) (hp_Pc D vwCl (hp_Tl cA) E sz (md_pic cA ad σ) [.ref (ad 137)]) (hp_Qi D vwCl (hp_Tl cA) sz (md_pic cA ad σ) (fun r u => r = p.1 ∧ u = md_pic cA ad p.2)) 0 0 (hp_A (md_pic cA ad σ) sz) := (md_Ge_ok l D cA E ad hj hE n 400).1
set_option maxHeartbeats 4000000 in
set_option maxRecDepth 100000 in
theorem km_X12_readMethod (l : Launch) (D : va_G) (cA : Nat → ClassId) (E : hp_N) (sz : Nat) (ad : Nat → Nat) (hj : md_inj ad) (hE : md_E E) (n : Nat) (σ0 : md_S) (a1 : Int32) (p : (Int32 × md_S)) (h : f_X12_readMethod n σ0 a1 = some p) : Met l yX12_readMethod (Cond.code yX12_readMethod cX12_readMethod 7 none :: v_MOD) ({ frames := 411, cells := 0, slots := 0, locals := 10265 }) (hp_Pc D vwCl (hp_Tl cA) E sz (md_pic cA ad σ0) [.ref (ad 137), .int a1]) (hp_Qv D vwCl (hp_Tl cA) sz (md_pic cA ad σ0) (fun u => u = md_pic cA ad p.2)) 0 0 (hp_A (md_pic cA ad σ0) sz) := by
  refine hp_ofW (cc := cX12_readMethod) (maxL := 7) (ret := none) (by decide) rfl (Nat.le_of_ble_eq_true rfl) ?_
  intro pp ee ss mm bb mt cd ls cx hsz hw hl
  have hl : lv_has ls 7 [(0, .ref (ad 137)), (1, .int a1)] := hl
  have J151 : ∀ (σ : md_S) (l1 : Int32) (l3 : Int32) (l4 : Int32) (H : Heap) (locs : List Loc) (ls : Array Slot), f_X12_readMethod_J151 n σ l1 l3 l4 = some p → hp_w D vwCl (hp_Tl cA) E (hp_A (md_pic cA ad σ0) sz) ss H locs (md_pic cA ad σ) → lv_has ls 7 [(0, .ref (ad 137)), (1, .int l1), (3, .int l3), (4, .int l4)] → W pp l ee ({ frames := 411, cells := 0, slots := 0, locals := 10265 }) ss mm [.ref (ad 137), .int a1].toArray bb mt cd H locs 0 0 (MQ bb (hp_Qv D vwCl (hp_Tl cA) sz (md_pic cA ad σ0) (fun u => u = md_pic cA ad p.2)) [.ref (ad 137), .int a1].toArray ss 0 0 (hp_A (md_pic cA ad σ0) sz)) (F0 mm 151 ls []) := by
    intro σ l1 l3 l4 H locs ls h hw hl
    refine lv_aload_n cx.1 cx.2.1 dX12_readMethod_151 rfl (lv_at hl 0 rfl) ?_
    refine lv_bipush (v := 41) cx.1 cx.2.1 dX12_readMethod_152 (by decide) ?_
    obtain ⟨p1, e_p1, h⟩ := md_ob h
    refine hp_callVv (As := [.int 41]) (rest := []) cx hw (km_X12_sign l D cA E _ ad hj hE n σ (41 : Int32) p1 e_p1) (cwV 1 cx.2.2.2.2.2.1 (md_giV mm_161 mm_162 mm_163 mm_5 mm_164) rfl rfl rfl hd_X12_sign ⟨Nat.le_of_ble_eq_true rfl, Nat.le_of_ble_eq_true rfl⟩) md_at0 rfl rfl hl.1 rfl (Nat.le_of_ble_eq_true rfl) dX12_readMethod_154 ⟨Nat.le_refl _, Nat.le_refl _⟩ (fun u H locs hp hw => ?_)
    obtain rfl := hp
    refine lv_aload_n cx.1 cx.2.1 dX12_readMethod_157 rfl (lv_at hl 0 rfl) ?_
    refine md_gR (k := 31) cx hw hin12c (by decide) (by decide) (List.mem_cons_of_mem _ mm_376) dX12_readMethod_158 ?_
    refine lv_bipush (v := 12) cx.1 cx.2.1 dX12_readMethod_161 (by decide) ?_
    refine lv_iload_n cx.1 cx.2.1 dX12_readMethod_163 rfl (lv_at hl 1 rfl) ?_
    refine lv_imul cx.1 cx.2.1 dX12_readMethod_164 ?_
    refine lv_aload_n cx.1 cx.2.1 dX12_readMethod_165 rfl (lv_at hl 0 rfl) ?_
    refine md_gR (k := 30) cx hw hin12c (by decide) (by decide) (List.mem_cons_of_mem _ mm_375) dX12_readMethod_166 ?_
    refine lv_iload_n cx.1 cx.2.1 dX12_readMethod_169 rfl (lv_at hl 1 rfl) ?_
    obtain ⟨v2, e_v2, h⟩ := md_ob h
    refine md_lI (k := 30) hj cx hw (by decide) rfl rfl rfl e_v2 dX12_readMethod_170 ?_
    refine lv_iadd cx.1 cx.2.1 dX12_readMethod_171 ?_
    refine lv_iload_n cx.1 cx.2.1 dX12_readMethod_172 rfl (lv_at hl 2 rfl) ?_
    obtain ⟨σ3, e_σ3, h⟩ := md_ob h
    refine md_sI (k := 31) hj cx hw (by decide) rfl rfl rfl e_σ3 dX12_readMethod_173 (fun H locs hw => ?_)
    refine lv_aload_n cx.1 cx.2.1 dX12_readMethod_174 rfl (lv_at hl 0 rfl) ?_
    refine md_gR (k := 30) cx hw hin12c (by decide) (by decide) (List.mem_cons_of_mem _ mm_375) dX12_readMethod_175 ?_
    refine lv_iload_n cx.1 cx.2.1 dX12_readMethod_178 rfl (lv_at hl 1 rfl) ?_
    refine lv_dup2_11 cx.1 cx.2.1 dX12_readMethod_179 rfl rfl ?_
    obtain ⟨v4, e_v4, h⟩ := md_ob h
    refine md_lI (k := 30) hj cx hw (by decide) rfl rfl rfl e_v4 dX12_readMethod_180 ?_
    refine lv_iconst (v := 1) cx.1 cx.2.1 dX12_readMethod_181 (by decide) ?_
    refine lv_iadd cx.1 cx.2.1 dX12_readMethod_182 ?_
    obtain ⟨σ5, e_σ5, h⟩ := md_ob h
    refine md_sI (k := 30) hj cx hw (by decide) rfl rfl rfl e_σ5 dX12_readMethod_183 (fun H locs hw => ?_)
    refine lv_aload_n cx.1 cx.2.1 dX12_readMethod_184 rfl (lv_at hl 0 rfl) ?_
    refine lv_bipush (v := 61) cx.1 cx.2.1 dX12_readMethod_185 (by decide) ?_
    obtain ⟨p6, e_p6, h⟩ := md_ob h
    refine hp_callVv (As := [.int 61]) (rest := []) cx hw (km_X12_sign l D cA E _ ad hj hE n σ5 (61 : Int32) p6 e_p6) (cwV 1 cx.2.2.2.2.2.1 (md_giV mm_161 mm_162 mm_163 mm_5 mm_164) rfl rfl rfl hd_X12_sign ⟨Nat.le_of_ble_eq_true rfl, Nat.le_of_ble_eq_true rfl⟩) md_at0 rfl rfl hl.1 rfl (Nat.le_of_ble_eq_true rfl) dX12_readMethod_187 ⟨Nat.le_refl _, Nat.le_refl _⟩ (fun u H locs hp hw => ?_)
    obtain rfl := hp
    refine lv_aload_n cx.1 cx.2.1 dX12_readMethod_190 rfl (lv_at hl 0 rfl) ?_
    refine lv_iload_n cx.1 cx.2.1 dX12_readMethod_191 rfl (lv_at hl 2 rfl) ?_
    obtain ⟨σ7, e_σ7, h⟩ := md_ob h
    refine md_pI (k := 64) cx hw hin12c rfl (by decide) rfl (List.mem_cons_of_mem _ mm_130) rfl e_σ7 dX12_readMethod_192 (fun H locs hw => ?_)
    refine lv_aload_n cx.1 cx.2.1 dX12_readMethod_195 rfl (lv_at hl 0 rfl) ?_
    obtain ⟨p8, e_p8, h⟩ := md_ob h
    refine hp_callVi (As := []) (rest := []) cx hw (og_X12_e l D cA E ad hj hE n _ σ7  p8 e_p8) (cwV 0 cx.2.2.2.2.2.1 (md_giV mm_195 mm_196 mm_197 mm_5 mm_198) rfl rfl rfl hd_X12_e ⟨Nat.le_of_ble_eq_true rfl, Nat.le_of_ble_eq_true rfl⟩) md_at0 rfl rfl hl.1 rfl (Nat.le_of_ble_eq_true rfl) dX12_readMethod_196 ⟨Nat.le_refl _, Nat.le_refl _⟩ (fun r u H locs hp hw => ?_)
    obtain ⟨rfl, rfl⟩ := hp
    refine lv_istore (lv' := [(5, .int p8.1), (0, .ref (ad 137)), (1, .int l1), (3, .int l3), (4, .int l4)]) cx.1 cx.2.1 dX12_readMethod_199 hl (by decide) rfl (fun ls hl => ?_)
    refine lv_aload_n cx.1 cx.2.1 dX12_readMethod_201 rfl (lv_at hl 1 rfl) ?_
    refine md_gR (k := 41) cx hw hin12c (by decide) (by decide) (List.mem_cons_of_mem _ mm_261) dX12_readMethod_202 ?_
    refine lv_iload_n cx.1 cx.2.1 dX12_readMethod_205 rfl (lv_at hl 3 rfl) ?_
    refine lv_iload cx.1 cx.2.1 dX12_readMethod_206 (lv_at hl 0 rfl) ?_
    obtain ⟨σ9, e_σ9, h⟩ := md_ob h
    refine md_sI (k := 41) hj cx hw (by decide) rfl rfl rfl e_σ9 dX12_readMethod_208 (fun H locs hw => ?_)
    refine lv_aload_n cx.1 cx.2.1 dX12_readMethod_209 rfl (lv_at hl 1 rfl) ?_
    refine lv_iconst (v := (-1)) cx.1 cx.2.1 dX12_readMethod_210 (by decide) ?_
    obtain ⟨σ10, e_σ10, h⟩ := md_ob h
    refine md_pI (k := 64) cx hw hin12c rfl (by decide) rfl (List.mem_cons_of_mem _ mm_130) rfl e_σ10 dX12_readMethod_211 (fun H locs hw => ?_)
    refine lv_aload_n cx.1 cx.2.1 dX12_readMethod_214 rfl (lv_at hl 1 rfl) ?_
    refine lv_iload cx.1 cx.2.1 dX12_readMethod_215 (lv_at hl 4 rfl) ?_
    obtain ⟨σ11, e_σ11, h⟩ := md_ob h
    refine md_pI (k := 56) cx hw hin12c rfl (by decide) rfl (List.mem_cons_of_mem _ mm_208) rfl e_σ11 dX12_readMethod_217 (fun H locs hw => ?_)
    refine lv_aload_n cx.1 cx.2.1 dX12_readMethod_220 rfl (lv_at hl 1 rfl) ?_
    refine lv_bipush (v := 59) cx.1 cx.2.1 dX12_readMethod_221 (by decide) ?_
    obtain ⟨p12, e_p12, h⟩ := md_ob h
    refine hp_callVv (As := [.int 59]) (rest := []) cx hw (km_X12_sign l D cA E _ ad hj hE n σ11 (59 : Int32) p12 e_p12) (cwV 1 cx.2.2.2.2.2.1 (md_giV mm_161 mm_162 mm_163 mm_5 mm_164) rfl rfl rfl hd_X12_sign ⟨Nat.le_of_ble_eq_true rfl, Nat.le_of_ble_eq_true rfl⟩) md_at0 rfl rfl hl.1 rfl (Nat.le_of_ble_eq_true rfl) dX12_readMethod_223 ⟨Nat.le_refl _, Nat.le_refl _⟩ (fun u H locs hp hw => ?_)
    obtain rfl := hp
    exact hp_vret cx hw (md_retv h) dX12_readMethod_226
  refine lv_aload_n cx.1 cx.2.1 dX12_readMethod_0 rfl (lv_at hl 0 rfl) ?_
  refine md_gR (k := 30) cx hw hin12c (by decide) (by decide) (List.mem_cons_of_mem _ mm_375) dX12_readMethod_1 ?_
  refine lv_iload_n cx.1 cx.2.1 dX12_readMethod_4 rfl (lv_at hl 1 rfl) ?_
  obtain ⟨v13, e_v13, h⟩ := md_ob h
  refine md_lI (k := 30) hj cx hw (by decide) rfl rfl rfl e_v13 dX12_readMethod_5 ?_
  refine lv_bipush (v := 12) cx.1 cx.2.1 dX12_readMethod_6 (by decide) ?_
  refine lv_icmp_ne (tgt := 17) cx.1 cx.2.1 dX12_readMethod_8 (by decide) (fun c8 => ?_) (fun c8 => ?_)
  · have h := md_in c8 h
    refine lv_aload_n cx.1 cx.2.1 dX12_readMethod_17 rfl (lv_at hl 0 rfl) ?_
    refine md_gI (k := 9) cx hw hin12c rfl (by decide) (List.mem_cons_of_mem _ mm_16) dX12_readMethod_18 ?_
    refine lv_istore_n (lv' := [(2, .int (mI σ0 9)), (0, .ref (ad 137)), (1, .int a1)]) cx.1 cx.2.1 dX12_readMethod_21 rfl hl (by decide) rfl (fun ls hl => ?_)
    refine lv_aload_n cx.1 cx.2.1 dX12_readMethod_22 rfl (lv_at hl 1 rfl) ?_
    refine lv_iconst (v := 0) cx.1 cx.2.1 dX12_readMethod_23 (by decide) ?_
    refine lv_iload_n cx.1 cx.2.1 dX12_readMethod_24 rfl (lv_at hl 2 rfl) ?_
    refine lv_iconst (v := (-1)) cx.1 cx.2.1 dX12_readMethod_25 (by decide) ?_
    obtain ⟨p14, e_p14, h⟩ := md_ob h
    refine hp_callVi (As := [.int 0, .int a1, .int (-1)]) (rest := []) cx hw (km_X12_newUnit l D cA E _ ad hj hE n σ0 (0 : Int32) a1 ((-1) : Int32) p14 e_p14) (cwV 3 cx.2.2.2.2.2.1 (md_giV mm_249 mm_250 mm_251 mm_5 mm_252) rfl rfl rfl hd_X12_newUnit ⟨Nat.le_of_ble_eq_true rfl, Nat.le_of_ble_eq_true rfl⟩) md_at0 rfl rfl hl.1 rfl (Nat.le_of_ble_eq_true rfl) dX12_readMethod_26 ⟨Nat.le_refl _, Nat.le_refl _⟩ (fun r u H locs hp hw => ?_)
    obtain ⟨rfl, rfl⟩ := hp
    refine lv_istore_n (lv' := [(3, .int p14.1), (2, .int (mI σ0 9)), (0, .ref (ad 137)), (1, .int a1)]) cx.1 cx.2.1 dX12_readMethod_29 rfl hl (by decide) rfl (fun ls hl => ?_)
    refine lv_aload_n cx.1 cx.2.1 dX12_readMethod_30 rfl (lv_at hl 2 rfl) ?_
    obtain ⟨p15, e_p15, h⟩ := md_ob h
    refine hp_callVi (As := []) (rest := []) cx hw (km_X12_isFine l D cA E _ ad hj hE n p14.2  p15 e_p15) (cwV 0 cx.2.2.2.2.2.1 (md_giV mm_64 mm_65 mm_66 mm_5 mm_67) rfl rfl rfl hd_X12_isFine ⟨Nat.le_of_ble_eq_true rfl, Nat.le_of_ble_eq_true rfl⟩) md_at0 rfl rfl hl.1 rfl (Nat.le_of_ble_eq_true rfl) dX12_readMethod_31 ⟨Nat.le_refl _, Nat.le_refl _⟩ (fun r u H locs hp hw => ?_)
    obtain ⟨rfl, rfl⟩ := hp
    refine lv_if_ne (tgt := 38) cx.1 cx.2.1 dX12_readMethod_34 (by decide) (fun c34 => ?_) (fun c34 => ?_)
    · have h := md_in c34 h
      refine lv_aload_n cx.1 cx.2.1 dX12_readMethod_38 rfl (lv_at hl 2 rfl) ?_
      obtain ⟨p16, e_p16, h⟩ := md_ob h
      refine hp_callVv (As := []) (rest := []) cx hw (km_X12_next l D cA E _ ad hj hE n p15.2  p16 e_p16) (cwV 0 cx.2.2.2.2.2.1 (md_giV mm_92 mm_93 mm_94 mm_5 mm_95) rfl rfl rfl hd_X12_next ⟨Nat.le_of_ble_eq_true rfl, Nat.le_of_ble_eq_true rfl⟩) md_at0 rfl rfl hl.1 rfl (Nat.le_of_ble_eq_true rfl) dX12_readMethod_39 ⟨Nat.le_refl _, Nat.le_refl _⟩ (fun u H locs hp hw => ?_)
      obtain rfl := hp
      refine lv_aload_n cx.1 cx.2.1 dX12_readMethod_42 rfl (lv_at hl 2 rfl) ?_
      refine md_gI (k := 56) cx hw hin12c rfl (by decide) (List.mem_cons_of_mem _ mm_208) dX12_readMethod_43 ?_
      refine lv_istore (lv' := [(4, .int (mI p16.2 56)), (3, .int p14.1), (2, .int (mI σ0 9)), (0, .ref (ad 137)), (1, .int a1)]) cx.1 cx.2.1 dX12_readMethod_46 hl (by decide) rfl (fun ls hl => ?_)
      refine lv_aload_n cx.1 cx.2.1 dX12_readMethod_48 rfl (lv_at hl 3 rfl) ?_
      refine md_gR (k := 55) cx hw hin12c (by decide) (by decide) (List.mem_cons_of_mem _ mm_248) dX12_readMethod_49 ?_
      refine lv_iload_n cx.1 cx.2.1 dX12_readMethod_52 rfl (lv_at hl 1 rfl) ?_
      refine lv_aload_n cx.1 cx.2.1 dX12_readMethod_53 rfl (lv_at hl 3 rfl) ?_
      refine lv_iload_n cx.1 cx.2.1 dX12_readMethod_54 rfl (lv_at hl 1 rfl) ?_
      refine lv_lconst (v := 0) cx.1 cx.2.1 dX12_readMethod_55 (by decide) ?_
      refine lv_iconst (v := 0) cx.1 cx.2.1 dX12_readMethod_56 (by decide) ?_
      refine lv_iconst (v := 0) cx.1 cx.2.1 dX12_readMethod_57 (by decide) ?_
      obtain ⟨p17, e_p17, h⟩ := md_ob h
      refine hp_callVi (As := [.int p14.1, .long 0, .int 0, .int 0]) (rest := [.int p14.1, .ref (ad 55)]) cx hw (km_X12_newVariable l D cA E _ ad hj hE n p16.2 (p14.1) (0 : Int64) (0 : Int32) (0 : Int32) p17 e_p17) (cwV 4 cx.2.2.2.2.2.1 (md_giV mm_214 mm_215 mm_216 mm_5 mm_217) rfl rfl rfl hd_X12_newVariable ⟨Nat.le_of_ble_eq_true rfl, Nat.le_of_ble_eq_true rfl⟩) md_at0 rfl rfl hl.1 rfl (Nat.le_of_ble_eq_true rfl) dX12_readMethod_58 ⟨Nat.le_refl _, Nat.le_refl _⟩ (fun r u H locs hp hw => ?_)
      obtain ⟨rfl, rfl⟩ := hp
      obtain ⟨σ18, e_σ18, h⟩ := md_ob h
      refine md_sI (k := 55) hj cx hw (by decide) rfl rfl rfl e_σ18 dX12_readMethod_61 (fun H locs hw => ?_)
      refine lv_aload_n cx.1 cx.2.1 dX12_readMethod_62 rfl (lv_at hl 3 rfl) ?_
      refine lv_iload_n cx.1 cx.2.1 dX12_readMethod_63 rfl (lv_at hl 1 rfl) ?_
      refine lv_iconst (v := 1) cx.1 cx.2.1 dX12_readMethod_64 (by decide) ?_
      obtain ⟨p19, e_p19, h⟩ := md_ob h
      refine hp_callVv (As := [.int p14.1, .int 1]) (rest := []) cx hw (km_X12_parameters l D cA E _ ad hj hE n σ18 (p14.1) (1 : Int32) p19 e_p19) (cwV 2 cx.2.2.2.2.2.1 (md_giV mm_253 mm_254 mm_255 mm_5 mm_256) rfl rfl rfl hd_X12_parameters ⟨Nat.le_of_ble_eq_true rfl, Nat.le_of_ble_eq_true rfl⟩) md_at0 rfl rfl hl.1 rfl (Nat.le_of_ble_eq_true rfl) dX12_readMethod_65 ⟨Nat.le_refl _, Nat.le_refl _⟩ (fun u H locs hp hw => ?_)
      obtain rfl := hp
      refine lv_aload_n cx.1 cx.2.1 dX12_readMethod_68 rfl (lv_at hl 3 rfl) ?_
      refine lv_bipush (v := 41) cx.1 cx.2.1 dX12_readMethod_69 (by decide) ?_
      obtain ⟨p20, e_p20, h⟩ := md_ob h
      refine hp_callVi (As := [.int 41]) (rest := []) cx hw (km_X12_isSign l D cA E _ ad hj hE n p19.2 (41 : Int32) p20 e_p20) (cwV 1 cx.2.2.2.2.2.1 (md_giV mm_84 mm_85 mm_86 mm_5 mm_87) rfl rfl rfl hd_X12_isSign ⟨Nat.le_of_ble_eq_true rfl, Nat.le_of_ble_eq_true rfl⟩) md_at0 rfl rfl hl.1 rfl (Nat.le_of_ble_eq_true rfl) dX12_readMethod_71 ⟨Nat.le_refl _, Nat.le_refl _⟩ (fun r u H locs hp hw => ?_)
      obtain ⟨rfl, rfl⟩ := hp
      refine lv_if_eq (tgt := 151) cx.1 cx.2.1 dX12_readMethod_74 (by decide) (fun c74 => ?_) (fun c74 => ?_)
      · have h := md_ip c74 h
        exact J151 p20.2 a1 (p14.1) ((mI p16.2 56)) _ _ _ h hw (lv_sub hl [3, 4, 1, 0] rfl)
      · have h := md_in c74 h
        refine lv_iconst (v := 0) cx.1 cx.2.1 dX12_readMethod_77 (by decide) ?_
        refine lv_istore (lv' := [(5, .int 0), (4, .int (mI p16.2 56)), (3, .int p14.1), (2, .int (mI σ0 9)), (0, .ref (ad 137)), (1, .int a1)]) cx.1 cx.2.1 dX12_readMethod_78 hl (by decide) rfl (fun ls hl => ?_)
        have L80 : ∀ (j : Nat) (σ : md_S) (l1 : Int32) (l2 : Int32) (l3 : Int32) (l4 : Int32) (l5 : Int32) (q : ((Int32 × md_S) ⊕ (md_S × Int32))) (H : Heap) (locs : List Loc) (ls : Array Slot), f_X12_readMethod_L80 n l1 l2 l3 l4 j σ l5 = some q → hp_w D vwCl (hp_Tl cA) E (hp_A (md_pic cA ad σ0) sz) ss H locs (md_pic cA ad σ) → lv_has ls 7 [(0, .ref (ad 137)), (1, .int l1), (2, .int l2), (3, .int l3), (4, .int l4), (5, .int l5)] → (∀ t, q = Sum.inr t → ∀ (H : Heap) (locs : List Loc) (ls : Array Slot), hp_w D vwCl (hp_Tl cA) E (hp_A (md_pic cA ad σ0) sz) ss H locs (md_pic cA ad t.1) → lv_has ls 7 [(0, .ref (ad 137)), (1, .int l1), (3, .int l3), (4, .int l4)] → W pp l ee ({ frames := 411, cells := 0, slots := 0, locals := 10265 }) ss mm [.ref (ad 137), .int a1].toArray bb mt cd H locs 0 0 (MQ bb (hp_Qv D vwCl (hp_Tl cA) sz (md_pic cA ad σ0) (fun u => u = md_pic cA ad p.2)) [.ref (ad 137), .int a1].toArray ss 0 0 (hp_A (md_pic cA ad σ0) sz)) (F0 mm 151 ls [])) → (∀ r, q = Sum.inl r → r = p) → W pp l ee ({ frames := 411, cells := 0, slots := 0, locals := 10265 }) ss mm [.ref (ad 137), .int a1].toArray bb mt cd H locs 0 0 (MQ bb (hp_Qv D vwCl (hp_Tl cA) sz (md_pic cA ad σ0) (fun u => u = md_pic cA ad p.2)) [.ref (ad 137), .int a1].toArray ss 0 0 (hp_A (md_pic cA ad σ0) sz)) (F0 mm 80 ls []) := by
          intro j
          induction j with
          | zero => intro σ l1 l2 l3 l4 l5 q H locs ls h; exact nomatch h
          | succ j ih =>
            intro σ l1 l2 l3 l4 l5 q H locs ls h hw hl K KR
            have J145 : ∀ (σ : md_S) (l5 : Int32) (H : Heap) (locs : List Loc) (ls : Array Slot), f_X12_readMethod_J145 n l1 l2 l3 l4 (f_X12_readMethod_L80 n l1 l2 l3 l4 j) σ l5 = some q → hp_w D vwCl (hp_Tl cA) E (hp_A (md_pic cA ad σ0) sz) ss H locs (md_pic cA ad σ) → lv_has ls 7 [(0, .ref (ad 137)), (1, .int l1), (2, .int l2), (3, .int l3), (4, .int l4), (5, .int l5)] → W pp l ee ({ frames := 411, cells := 0, slots := 0, locals := 10265 }) ss mm [.ref (ad 137), .int a1].toArray bb mt cd H locs 0 0 (MQ bb (hp_Qv D vwCl (hp_Tl cA) sz (md_pic cA ad σ0) (fun u => u = md_pic cA ad p.2)) [.ref (ad 137), .int a1].toArray ss 0 0 (hp_A (md_pic cA ad σ0) sz)) (F0 mm 145 ls []) := by
              intro σ l5 H locs ls h hw hl
              refine lv_iinc (v := (l5 + 1)) (lv' := [(5, .int (l5 + 1)), (0, .ref (ad 137)), (1, .int l1), (2, .int l2), (3, .int l3), (4, .int l4)]) cx.1 cx.2.1 dX12_readMethod_145 hl (k := 5) rfl rfl (by decide) rfl (fun ls hl => ?_)
              refine lv_goto (tgt := 80) cx.1 cx.2.1 dX12_readMethod_148 (by decide) ?_
              exact ih σ l1 l2 l3 l4 ((l5 + 1)) q _ _ _ h hw (lv_sub hl [1, 2, 3, 4, 5, 0] rfl) K KR
            refine lv_iload cx.1 cx.2.1 dX12_readMethod_80 (lv_at hl 5 rfl) ?_
            refine lv_aload_n cx.1 cx.2.1 dX12_readMethod_82 rfl (lv_at hl 0 rfl) ?_
            refine md_gR (k := 30) cx hw hin12c (by decide) (by decide) (List.mem_cons_of_mem _ mm_375) dX12_readMethod_83 ?_
            refine lv_iload_n cx.1 cx.2.1 dX12_readMethod_86 rfl (lv_at hl 1 rfl) ?_
            obtain ⟨v21, e_v21, h⟩ := md_ob h
            refine md_lI (k := 30) hj cx hw (by decide) rfl rfl rfl e_v21 dX12_readMethod_87 ?_
            refine lv_icmp_ge (tgt := 151) cx.1 cx.2.1 dX12_readMethod_88 (by decide) (fun c88 => ?_) (fun c88 => ?_)
            · have h := md_ip c88 h
              exact K _ (Option.some.inj h).symm _ _ _ hw (lv_sub hl [0, 1, 3, 4] rfl)
            · have h := md_in c88 h
              refine lv_aload_n cx.1 cx.2.1 dX12_readMethod_91 rfl (lv_at hl 0 rfl) ?_
              refine md_gR (k := 31) cx hw hin12c (by decide) (by decide) (List.mem_cons_of_mem _ mm_376) dX12_readMethod_92 ?_
              refine lv_bipush (v := 12) cx.1 cx.2.1 dX12_readMethod_95 (by decide) ?_
              refine lv_iload_n cx.1 cx.2.1 dX12_readMethod_97 rfl (lv_at hl 1 rfl) ?_
              refine lv_imul cx.1 cx.2.1 dX12_readMethod_98 ?_
              refine lv_iload cx.1 cx.2.1 dX12_readMethod_99 (lv_at hl 5 rfl) ?_
              refine lv_iadd cx.1 cx.2.1 dX12_readMethod_101 ?_
              obtain ⟨v22, e_v22, h⟩ := md_ob h
              refine md_lI (k := 31) hj cx hw (by decide) rfl rfl rfl e_v22 dX12_readMethod_102 ?_
              refine lv_istore (lv' := [(6, .int v22), (0, .ref (ad 137)), (1, .int l1), (2, .int l2), (3, .int l3), (4, .int l4), (5, .int l5)]) cx.1 cx.2.1 dX12_readMethod_103 hl (by decide) rfl (fun ls hl => ?_)
              refine lv_aload_n cx.1 cx.2.1 dX12_readMethod_105 rfl (lv_at hl 1 rfl) ?_
              refine md_gR (k := 43) cx hw hin12c (by decide) (by decide) (List.mem_cons_of_mem _ mm_141) dX12_readMethod_106 ?_
              refine lv_iload cx.1 cx.2.1 dX12_readMethod_109 (lv_at hl 0 rfl) ?_
              obtain ⟨v23, e_v23, h⟩ := md_ob h
              refine md_lJ (k := 43) hj cx hw (by decide) rfl rfl rfl e_v23 dX12_readMethod_111 ?_
              refine lv_aload_n cx.1 cx.2.1 dX12_readMethod_112 rfl (lv_at hl 1 rfl) ?_
              refine md_gR (k := 43) cx hw hin12c (by decide) (by decide) (List.mem_cons_of_mem _ mm_141) dX12_readMethod_113 ?_
              refine lv_iload_n cx.1 cx.2.1 dX12_readMethod_116 rfl (lv_at hl 4 rfl) ?_
              obtain ⟨v24, e_v24, h⟩ := md_ob h
              refine md_lJ (k := 43) hj cx hw (by decide) rfl rfl rfl e_v24 dX12_readMethod_117 ?_
              refine W.lcmp cx.1 cx.2.1 dX12_readMethod_118 ?_
              refine lv_if_ne (tgt := 145) cx.1 cx.2.1 dX12_readMethod_119 (by decide) (fun c119 => ?_) (fun c119 => ?_)
              · have h := md_in c119 h
                exact J145 σ l5 _ _ _ h hw (lv_sub hl [1, 2, 3, 4, 5, 6] rfl)
              · have h := md_ip c119 h
                refine lv_aload_n cx.1 cx.2.1 dX12_readMethod_122 rfl (lv_at hl 1 rfl) ?_
                refine md_gR (k := 39) cx hw hin12c (by decide) (by decide) (List.mem_cons_of_mem _ mm_140) dX12_readMethod_123 ?_
                refine lv_iload cx.1 cx.2.1 dX12_readMethod_126 (lv_at hl 0 rfl) ?_
                obtain ⟨v25, e_v25, h⟩ := md_ob h
                refine md_lI (k := 39) hj cx hw (by decide) rfl rfl rfl e_v25 dX12_readMethod_128 ?_
                refine lv_aload_n cx.1 cx.2.1 dX12_readMethod_129 rfl (lv_at hl 1 rfl) ?_
                refine md_gR (k := 39) cx hw hin12c (by decide) (by decide) (List.mem_cons_of_mem _ mm_140) dX12_readMethod_130 ?_
                refine lv_iload_n cx.1 cx.2.1 dX12_readMethod_133 rfl (lv_at hl 4 rfl) ?_
                obtain ⟨v26, e_v26, h⟩ := md_ob h
                refine md_lI (k := 39) hj cx hw (by decide) rfl rfl rfl e_v26 dX12_readMethod_134 ?_
                refine lv_icmp_ne (tgt := 145) cx.1 cx.2.1 dX12_readMethod_135 (by decide) (fun c135 => ?_) (fun c135 => ?_)
                · have h := md_in c135 h
                  exact J145 σ l5 _ _ _ h hw (lv_sub hl [1, 2, 3, 4, 5, 6] rfl)
                · have h := md_ip c135 h
                  refine lv_aload_n cx.1 cx.2.1 dX12_readMethod_138 rfl (lv_at hl 1 rfl) ?_
                  refine lv_iconst (v := 2) cx.1 cx.2.1 dX12_readMethod_139 (by decide) ?_
                  refine lv_iload_n cx.1 cx.2.1 dX12_readMethod_140 rfl (lv_at hl 3 rfl) ?_
                  obtain ⟨p27, e_p27, h⟩ := md_ob h
                  refine hp_callVv (As := [.int 2, .int l2]) (rest := []) cx hw (km_X12_failsAt l D cA E _ ad hj hE n σ (2 : Int32) l2 p27 e_p27) (cwV 2 cx.2.2.2.2.2.1 (md_giV mm_17 mm_18 mm_19 mm_5 mm_20) rfl rfl rfl hd_X12_failsAt ⟨Nat.le_of_ble_eq_true rfl, Nat.le_of_ble_eq_true rfl⟩) md_at0 rfl rfl hl.1 rfl (Nat.le_of_ble_eq_true rfl) dX12_readMethod_141 ⟨Nat.le_refl _, Nat.le_refl _⟩ (fun u H locs hp hw => ?_)
                  obtain rfl := hp
                  exact hp_vret cx hw (md_retv (congrArg some (KR _ (Option.some.inj h).symm))) dX12_readMethod_144
        obtain ⟨q28, e_q28, h⟩ := md_ob h
        refine L80 n p20.2 a1 ((mI σ0 9)) (p14.1) ((mI p16.2 56)) 0 q28 _ _ _ e_q28 hw (lv_sub hl [4, 5, 3, 2, 1, 0] rfl) (fun t28 hq28 H locs ls hw hl => ?_) (fun r hr => by subst hr; exact Option.some.inj h)
        subst hq28
        have h := md_inr h
        exact J151 t28.1 a1 (p14.1) ((mI p16.2 56)) _ _ _ h hw (lv_sub hl [0, 1, 2, 3] rfl)
    · have h := md_ip c34 h
      exact hp_vret cx hw (md_retv h) dX12_readMethod_37
  · have h := md_ip c8 h
    refine lv_aload_n cx.1 cx.2.1 dX12_readMethod_11 rfl (lv_at hl 0 rfl) ?_
    refine lv_iconst (v := 4) cx.1 cx.2.1 dX12_readMethod_12 (by decide) ?_
    obtain ⟨p29, e_p29, h⟩ := md_ob h
    refine hp_callVv (As := [.int 4]) (rest := []) cx hw (km_X12_fails l D cA E _ ad hj hE n σ0 (4 : Int32) p29 e_p29) (cwV 1 cx.2.2.2.2.2.1 (md_giV mm_54 mm_55 mm_56 mm_5 mm_57) rfl rfl rfl hd_X12_fails ⟨Nat.le_of_ble_eq_true rfl, Nat.le_of_ble_eq_true rfl⟩) md_at0 rfl rfl hl.1 rfl (Nat.le_of_ble_eq_true rfl) dX12_readMethod_13 ⟨Nat.le_refl _, Nat.le_refl _⟩ (fun u H locs hp hw => ?_)
    obtain rfl := hp
    exact hp_vret cx hw (md_retv h) dX12_readMethod_16
set_option maxHeartbeats 4000000 in
set_option maxRecDepth 100000 in
theorem km_X12_readModule (l : Launch) (D : va_G) (cA : Nat → ClassId) (E : hp_N) (sz : Nat) (ad : Nat → Nat) (hj : md_inj ad) (hE : md_E E) (n : Nat) (σ0 : md_S) (p : (Int32 × md_S)) (h : f_X12_readModule n σ0 = some p) : Met l yX12_readModule (Cond.code yX12_readModule cX12_readModule 2 none :: v_MOD) ({ frames := 412, cells := 0, slots := 0, locals := 10291 }) (hp_Pc D vwCl (hp_Tl cA) E sz (md_pic cA ad σ0) [.ref (ad 137)]) (hp_Qv D vwCl (hp_Tl cA) sz (md_pic cA ad σ0) (fun u => u = md_pic cA ad p.2)) 0 0 (hp_A (md_pic cA ad σ0) sz) := by
  refine hp_ofW (cc := cX12_readModule) (maxL := 2) (ret := none) (by decide) rfl (Nat.le_of_ble_eq_true rfl) ?_
  intro pp ee ss mm bb mt cd ls cx hsz hw hl
  have hl : lv_has ls 2 [(0, .ref (ad 137))] := hl
  have J145 : ∀ (σ : md_S) (l1 : Int32) (H : Heap) (locs : List Loc) (ls : Array Slot), f_X12_readModule_J145 n σ l1 = some p → hp_w D vwCl (hp_Tl cA) E (hp_A (md_pic cA ad σ0) sz) ss H locs (md_pic cA ad σ) → lv_has ls 2 [(0, .ref (ad 137)), (1, .int l1)] → W pp l ee ({ frames := 412, cells := 0, slots := 0, locals := 10291 }) ss mm [.ref (ad 137)].toArray bb mt cd H locs 0 0 (MQ bb (hp_Qv D vwCl (hp_Tl cA) sz (md_pic cA ad σ0) (fun u => u = md_pic cA ad p.2)) [.ref (ad 137)].toArray ss 0 0 (hp_A (md_pic cA ad σ0) sz)) (F0 mm 145 ls []) := by
    intro σ l1 H locs ls h hw hl
    refine lv_aload_n cx.1 cx.2.1 dX12_readModule_145 rfl (lv_at hl 0 rfl) ?_
    refine lv_dup cx.1 cx.2.1 dX12_readModule_146 rfl ?_
    refine md_gI (k := 25) cx hw hin12c rfl (by decide) (List.mem_cons_of_mem _ mm_137) dX12_readModule_147 ?_
    refine lv_iconst (v := 1) cx.1 cx.2.1 dX12_readModule_150 (by decide) ?_
    refine lv_iadd cx.1 cx.2.1 dX12_readModule_151 ?_
    obtain ⟨σ1, e_σ1, h⟩ := md_ob h
    refine md_pI (k := 25) cx hw hin12c rfl (by decide) rfl (List.mem_cons_of_mem _ mm_137) rfl e_σ1 dX12_readModule_152 (fun H locs hw => ?_)
    refine lv_aload_n cx.1 cx.2.1 dX12_readModule_155 rfl (lv_at hl 0 rfl) ?_
    refine lv_bipush (v := 123) cx.1 cx.2.1 dX12_readModule_156 (by decide) ?_
    obtain ⟨p2, e_p2, h⟩ := md_ob h
    refine hp_callVv (As := [.int 123]) (rest := []) cx hw (km_X12_sign l D cA E _ ad hj hE n σ1 (123 : Int32) p2 e_p2) (cwV 1 cx.2.2.2.2.2.1 (md_giV mm_161 mm_162 mm_163 mm_5 mm_164) rfl rfl rfl hd_X12_sign ⟨Nat.le_of_ble_eq_true rfl, Nat.le_of_ble_eq_true rfl⟩) md_at0 rfl rfl hl.1 rfl (Nat.le_of_ble_eq_true rfl) dX12_readModule_158 ⟨Nat.le_refl _, Nat.le_refl _⟩ (fun u H locs hp hw => ?_)
    obtain rfl := hp
    have L161 : ∀ (j : Nat) (σ : md_S) (l1 : Int32) (q : (md_S)) (H : Heap) (locs : List Loc) (ls : Array Slot), f_X12_readModule_L161 n l1 j σ = some q → hp_w D vwCl (hp_Tl cA) E (hp_A (md_pic cA ad σ0) sz) ss H locs (md_pic cA ad σ) → lv_has ls 2 [(0, .ref (ad 137)), (1, .int l1)] → (∀ (H : Heap) (locs : List Loc) (ls : Array Slot), hp_w D vwCl (hp_Tl cA) E (hp_A (md_pic cA ad σ0) sz) ss H locs (md_pic cA ad q) → lv_has ls 2 [(0, .ref (ad 137)), (1, .int l1)] → W pp l ee ({ frames := 412, cells := 0, slots := 0, locals := 10291 }) ss mm [.ref (ad 137)].toArray bb mt cd H locs 0 0 (MQ bb (hp_Qv D vwCl (hp_Tl cA) sz (md_pic cA ad σ0) (fun u => u = md_pic cA ad p.2)) [.ref (ad 137)].toArray ss 0 0 (hp_A (md_pic cA ad σ0) sz)) (F0 mm 187 ls [])) → W pp l ee ({ frames := 412, cells := 0, slots := 0, locals := 10291 }) ss mm [.ref (ad 137)].toArray bb mt cd H locs 0 0 (MQ bb (hp_Qv D vwCl (hp_Tl cA) sz (md_pic cA ad σ0) (fun u => u = md_pic cA ad p.2)) [.ref (ad 137)].toArray ss 0 0 (hp_A (md_pic cA ad σ0) sz)) (F0 mm 161 ls []) := by
      intro j
      induction j with
      | zero => intro σ l1 q H locs ls h; exact nomatch h
      | succ j ih =>
        intro σ l1 q H locs ls h hw hl K
        refine lv_aload_n cx.1 cx.2.1 dX12_readModule_161 rfl (lv_at hl 0 rfl) ?_
        refine lv_iconst (v := 2) cx.1 cx.2.1 dX12_readModule_162 (by decide) ?_
        obtain ⟨p3, e_p3, h⟩ := md_ob h
        refine hp_callVi (As := [.int 2]) (rest := []) cx hw (km_X12_isKey l D cA E _ ad hj hE n σ (2 : Int32) p3 e_p3) (cwV 1 cx.2.2.2.2.2.1 (md_giV mm_96 mm_97 mm_98 mm_5 mm_99) rfl rfl rfl hd_X12_isKey ⟨Nat.le_of_ble_eq_true rfl, Nat.le_of_ble_eq_true rfl⟩) md_at0 rfl rfl hl.1 rfl (Nat.le_of_ble_eq_true rfl) dX12_readModule_163 ⟨Nat.le_refl _, Nat.le_refl _⟩ (fun r u H locs hp hw => ?_)
        obtain ⟨rfl, rfl⟩ := hp
        refine lv_if_eq (tgt := 187) cx.1 cx.2.1 dX12_readModule_166 (by decide) (fun c166 => ?_) (fun c166 => ?_)
        · have h := md_ip c166 h
          obtain rfl := Option.some.inj h
          exact K _ _ _ hw (lv_sub hl [0, 1] rfl)
        · have h := md_in c166 h
          refine lv_aload_n cx.1 cx.2.1 dX12_readModule_169 rfl (lv_at hl 0 rfl) ?_
          obtain ⟨p4, e_p4, h⟩ := md_ob h
          refine hp_callVv (As := []) (rest := []) cx hw (km_X12_next l D cA E _ ad hj hE n p3.2  p4 e_p4) (cwV 0 cx.2.2.2.2.2.1 (md_giV mm_92 mm_93 mm_94 mm_5 mm_95) rfl rfl rfl hd_X12_next ⟨Nat.le_of_ble_eq_true rfl, Nat.le_of_ble_eq_true rfl⟩) md_at0 rfl rfl hl.1 rfl (Nat.le_of_ble_eq_true rfl) dX12_readModule_170 ⟨Nat.le_refl _, Nat.le_refl _⟩ (fun u H locs hp hw => ?_)
          obtain rfl := hp
          refine lv_aload_n cx.1 cx.2.1 dX12_readModule_173 rfl (lv_at hl 0 rfl) ?_
          refine lv_iload_n cx.1 cx.2.1 dX12_readModule_174 rfl (lv_at hl 1 rfl) ?_
          obtain ⟨p5, e_p5, h⟩ := md_ob h
          refine hp_callVv (As := [.int l1]) (rest := []) cx hw (km_X12_readField l D cA E _ ad hj hE n p4.2 l1 p5 e_p5) (cwV 1 cx.2.2.2.2.2.1 (md_giV mm_377 mm_378 mm_379 mm_5 mm_380) rfl rfl rfl hd_X12_readField ⟨Nat.le_of_ble_eq_true rfl, Nat.le_of_ble_eq_true rfl⟩) md_at0 rfl rfl hl.1 rfl (Nat.le_of_ble_eq_true rfl) dX12_readModule_175 ⟨Nat.le_refl _, Nat.le_refl _⟩ (fun u H locs hp hw => ?_)
          obtain rfl := hp
          refine lv_aload_n cx.1 cx.2.1 dX12_readModule_178 rfl (lv_at hl 0 rfl) ?_
          refine lv_bipush (v := 59) cx.1 cx.2.1 dX12_readModule_179 (by decide) ?_
          obtain ⟨p6, e_p6, h⟩ := md_ob h
          refine hp_callVv (As := [.int 59]) (rest := []) cx hw (km_X12_sign l D cA E _ ad hj hE n p5.2 (59 : Int32) p6 e_p6) (cwV 1 cx.2.2.2.2.2.1 (md_giV mm_161 mm_162 mm_163 mm_5 mm_164) rfl rfl rfl hd_X12_sign ⟨Nat.le_of_ble_eq_true rfl, Nat.le_of_ble_eq_true rfl⟩) md_at0 rfl rfl hl.1 rfl (Nat.le_of_ble_eq_true rfl) dX12_readModule_181 ⟨Nat.le_refl _, Nat.le_refl _⟩ (fun u H locs hp hw => ?_)
          obtain rfl := hp
          refine lv_goto (tgt := 161) cx.1 cx.2.1 dX12_readModule_184 (by decide) ?_
          exact ih p6.2 l1 q _ _ _ h hw (lv_sub hl [0, 1] rfl) K
    obtain ⟨q7, e_q7, h⟩ := md_ob h
    refine L161 n p2.2 l1 q7 _ _ _ e_q7 hw (lv_sub hl [0, 1] rfl) (fun H locs ls hw hl => ?_)
    have L187 : ∀ (j : Nat) (σ : md_S) (l1 : Int32) (q : (md_S)) (H : Heap) (locs : List Loc) (ls : Array Slot), f_X12_readModule_L187 n l1 j σ = some q → hp_w D vwCl (hp_Tl cA) E (hp_A (md_pic cA ad σ0) sz) ss H locs (md_pic cA ad σ) → lv_has ls 2 [(0, .ref (ad 137)), (1, .int l1)] → (∀ (H : Heap) (locs : List Loc) (ls : Array Slot), hp_w D vwCl (hp_Tl cA) E (hp_A (md_pic cA ad σ0) sz) ss H locs (md_pic cA ad q) → lv_has ls 2 [(0, .ref (ad 137))] → W pp l ee ({ frames := 412, cells := 0, slots := 0, locals := 10291 }) ss mm [.ref (ad 137)].toArray bb mt cd H locs 0 0 (MQ bb (hp_Qv D vwCl (hp_Tl cA) sz (md_pic cA ad σ0) (fun u => u = md_pic cA ad p.2)) [.ref (ad 137)].toArray ss 0 0 (hp_A (md_pic cA ad σ0) sz)) (F0 mm 210 ls [])) → W pp l ee ({ frames := 412, cells := 0, slots := 0, locals := 10291 }) ss mm [.ref (ad 137)].toArray bb mt cd H locs 0 0 (MQ bb (hp_Qv D vwCl (hp_Tl cA) sz (md_pic cA ad σ0) (fun u => u = md_pic cA ad p.2)) [.ref (ad 137)].toArray ss 0 0 (hp_A (md_pic cA ad σ0) sz)) (F0 mm 187 ls []) := by
      intro j
      induction j with
      | zero => intro σ l1 q H locs ls h; exact nomatch h
      | succ j ih =>
        intro σ l1 q H locs ls h hw hl K
        refine lv_aload_n cx.1 cx.2.1 dX12_readModule_187 rfl (lv_at hl 0 rfl) ?_
        obtain ⟨p8, e_p8, h⟩ := md_ob h
        refine hp_callVi (As := []) (rest := []) cx hw (km_X12_isFine l D cA E _ ad hj hE n σ  p8 e_p8) (cwV 0 cx.2.2.2.2.2.1 (md_giV mm_64 mm_65 mm_66 mm_5 mm_67) rfl rfl rfl hd_X12_isFine ⟨Nat.le_of_ble_eq_true rfl, Nat.le_of_ble_eq_true rfl⟩) md_at0 rfl rfl hl.1 rfl (Nat.le_of_ble_eq_true rfl) dX12_readModule_188 ⟨Nat.le_refl _, Nat.le_refl _⟩ (fun r u H locs hp hw => ?_)
        obtain ⟨rfl, rfl⟩ := hp
        refine lv_if_eq (tgt := 210) cx.1 cx.2.1 dX12_readModule_191 (by decide) (fun c191 => ?_) (fun c191 => ?_)
        · have h := md_ip c191 h
          obtain rfl := Option.some.inj h
          exact K _ _ _ hw (lv_sub hl [0] rfl)
        · have h := md_in c191 h
          refine lv_aload_n cx.1 cx.2.1 dX12_readModule_194 rfl (lv_at hl 0 rfl) ?_
          refine md_gI (k := 8) cx hw hin12c rfl (by decide) (List.mem_cons_of_mem _ mm_15) dX12_readModule_195 ?_
          refine lv_iconst (v := 1) cx.1 cx.2.1 dX12_readModule_198 (by decide) ?_
          refine lv_icmp_ne (tgt := 210) cx.1 cx.2.1 dX12_readModule_199 (by decide) (fun c199 => ?_) (fun c199 => ?_)
          · have h := md_in c199 h
            obtain rfl := Option.some.inj h
            exact K _ _ _ hw (lv_sub hl [0] rfl)
          · have h := md_ip c199 h
            refine lv_aload_n cx.1 cx.2.1 dX12_readModule_202 rfl (lv_at hl 0 rfl) ?_
            refine lv_iload_n cx.1 cx.2.1 dX12_readModule_203 rfl (lv_at hl 1 rfl) ?_
            obtain ⟨p9, e_p9, h⟩ := md_ob h
            refine hp_callVv (As := [.int l1]) (rest := []) cx hw (km_X12_readMethod l D cA E _ ad hj hE n p8.2 l1 p9 e_p9) (cwV 1 cx.2.2.2.2.2.1 (md_giV mm_381 mm_382 mm_383 mm_5 mm_384) rfl rfl rfl hd_X12_readMethod ⟨Nat.le_of_ble_eq_true rfl, Nat.le_of_ble_eq_true rfl⟩) md_at0 rfl rfl hl.1 rfl (Nat.le_of_ble_eq_true rfl) dX12_readModule_204 ⟨Nat.le_refl _, Nat.le_refl _⟩ (fun u H locs hp hw => ?_)
            obtain rfl := hp
            refine lv_goto (tgt := 187) cx.1 cx.2.1 dX12_readModule_207 (by decide) ?_
            exact ih p9.2 l1 q _ _ _ h hw (lv_sub hl [0, 1] rfl) K
    obtain ⟨q10, e_q10, h⟩ := md_ob h
    refine L187 n q7 l1 q10 _ _ _ e_q10 hw (lv_sub hl [0, 1] rfl) (fun H locs ls hw hl => ?_)
    refine lv_aload_n cx.1 cx.2.1 dX12_readModule_210 rfl (lv_at hl 0 rfl) ?_
    refine lv_bipush (v := 125) cx.1 cx.2.1 dX12_readModule_211 (by decide) ?_
    obtain ⟨p11, e_p11, h⟩ := md_ob h
    refine hp_callVv (As := [.int 125]) (rest := []) cx hw (km_X12_sign l D cA E _ ad hj hE n q10 (125 : Int32) p11 e_p11) (cwV 1 cx.2.2.2.2.2.1 (md_giV mm_161 mm_162 mm_163 mm_5 mm_164) rfl rfl rfl hd_X12_sign ⟨Nat.le_of_ble_eq_true rfl, Nat.le_of_ble_eq_true rfl⟩) md_at0 rfl rfl hl.1 rfl (Nat.le_of_ble_eq_true rfl) dX12_readModule_213 ⟨Nat.le_refl _, Nat.le_refl _⟩ (fun u H locs hp hw => ?_)
    obtain rfl := hp
    exact hp_vret cx hw (md_retv h) dX12_readModule_216
  refine lv_aload_n cx.1 cx.2.1 dX12_readModule_0 rfl (lv_at hl 0 rfl) ?_
  refine lv_iconst (v := 1) cx.1 cx.2.1 dX12_readModule_1 (by decide) ?_
  obtain ⟨p12, e_p12, h⟩ := md_ob h
  refine hp_callVv (As := [.int 1]) (rest := []) cx hw (km_X12_key l D cA E _ ad hj hE n σ0 (1 : Int32) p12 e_p12) (cwV 1 cx.2.2.2.2.2.1 (md_giV mm_203 mm_204 mm_205 mm_5 mm_206) rfl rfl rfl hd_X12_key ⟨Nat.le_of_ble_eq_true rfl, Nat.le_of_ble_eq_true rfl⟩) md_at0 rfl rfl hl.1 rfl (Nat.le_of_ble_eq_true rfl) dX12_readModule_2 ⟨Nat.le_refl _, Nat.le_refl _⟩ (fun u H locs hp hw => ?_)
  obtain rfl := hp
  refine lv_aload_n cx.1 cx.2.1 dX12_readModule_5 rfl (lv_at hl 0 rfl) ?_
  obtain ⟨p13, e_p13, h⟩ := md_ob h
  refine hp_callVi (As := []) (rest := []) cx hw (km_X12_isName l D cA E _ ad hj hE n p12.2  p13 e_p13) (cwV 0 cx.2.2.2.2.2.1 (md_giV mm_107 mm_108 mm_109 mm_5 mm_110) rfl rfl rfl hd_X12_isName ⟨Nat.le_of_ble_eq_true rfl, Nat.le_of_ble_eq_true rfl⟩) md_at0 rfl rfl hl.1 rfl (Nat.le_of_ble_eq_true rfl) dX12_readModule_6 ⟨Nat.le_refl _, Nat.le_refl _⟩ (fun r u H locs hp hw => ?_)
  obtain ⟨rfl, rfl⟩ := hp
  refine lv_if_ne (tgt := 13) cx.1 cx.2.1 dX12_readModule_9 (by decide) (fun c9 => ?_) (fun c9 => ?_)
  · have h := md_in c9 h
    refine lv_aload_n cx.1 cx.2.1 dX12_readModule_13 rfl (lv_at hl 0 rfl) ?_
    refine md_gI (k := 25) cx hw hin12c rfl (by decide) (List.mem_cons_of_mem _ mm_137) dX12_readModule_14 ?_
    refine lv_istore_n (lv' := [(1, .int (mI p13.2 25)), (0, .ref (ad 137))]) cx.1 cx.2.1 dX12_readModule_17 rfl hl (by decide) rfl (fun ls hl => ?_)
    refine lv_iload_n cx.1 cx.2.1 dX12_readModule_18 rfl (lv_at hl 0 rfl) ?_
    refine lv_bipush (v := 8) cx.1 cx.2.1 dX12_readModule_19 (by decide) ?_
    refine lv_icmp_ne (tgt := 30) cx.1 cx.2.1 dX12_readModule_21 (by decide) (fun c21 => ?_) (fun c21 => ?_)
    · have h := md_in c21 h
      refine lv_aload_n cx.1 cx.2.1 dX12_readModule_30 rfl (lv_at hl 1 rfl) ?_
      refine lv_aload_n cx.1 cx.2.1 dX12_readModule_31 rfl (lv_at hl 1 rfl) ?_
      refine md_gJ (k := 12) cx hw hin12c rfl (by decide) (List.mem_cons_of_mem _ mm_41) dX12_readModule_32 ?_
      obtain ⟨p14, e_p14, h⟩ := md_ob h
      refine hp_callVi (As := [.long (mJ p13.2 12)]) (rest := []) cx hw (km_X12_moduleOf l D cA E _ ad hj hE n p13.2 ((mJ p13.2 12)) p14 e_p14) (cwV 1 cx.2.2.2.2.2.1 (md_giV mm_262 mm_263 mm_264 mm_5 mm_265) rfl rfl rfl hd_X12_moduleOf ⟨Nat.le_of_ble_eq_true rfl, Nat.le_of_ble_eq_true rfl⟩) md_at0 rfl rfl hl.1 rfl (Nat.le_of_ble_eq_true rfl) dX12_readModule_35 ⟨Nat.le_refl _, Nat.le_refl _⟩ (fun r u H locs hp hw => ?_)
      obtain ⟨rfl, rfl⟩ := hp
      refine lv_iconst (v := (-1)) cx.1 cx.2.1 dX12_readModule_38 (by decide) ?_
      refine lv_icmp_eq (tgt := 48) cx.1 cx.2.1 dX12_readModule_39 (by decide) (fun c39 => ?_) (fun c39 => ?_)
      · have h := md_ip c39 h
        refine lv_aload_n cx.1 cx.2.1 dX12_readModule_48 rfl (lv_at hl 1 rfl) ?_
        refine md_gR (k := 26) cx hw hin12c (by decide) (by decide) (List.mem_cons_of_mem _ mm_169) dX12_readModule_49 ?_
        refine lv_iload_n cx.1 cx.2.1 dX12_readModule_52 rfl (lv_at hl 0 rfl) ?_
        refine lv_aload_n cx.1 cx.2.1 dX12_readModule_53 rfl (lv_at hl 1 rfl) ?_
        refine md_gJ (k := 12) cx hw hin12c rfl (by decide) (List.mem_cons_of_mem _ mm_41) dX12_readModule_54 ?_
        obtain ⟨σ15, e_σ15, h⟩ := md_ob h
        refine md_sJ (k := 26) hj cx hw (by decide) rfl rfl rfl e_σ15 dX12_readModule_57 (fun H locs hw => ?_)
        refine lv_aload_n cx.1 cx.2.1 dX12_readModule_58 rfl (lv_at hl 1 rfl) ?_
        refine md_gR (k := 27) cx hw hin12c (by decide) (by decide) (List.mem_cons_of_mem _ mm_170) dX12_readModule_59 ?_
        refine lv_iload_n cx.1 cx.2.1 dX12_readModule_62 rfl (lv_at hl 0 rfl) ?_
        refine lv_iconst (v := (-1)) cx.1 cx.2.1 dX12_readModule_63 (by decide) ?_
        obtain ⟨σ16, e_σ16, h⟩ := md_ob h
        refine md_sI (k := 27) hj cx hw (by decide) rfl rfl rfl e_σ16 dX12_readModule_64 (fun H locs hw => ?_)
        refine lv_aload_n cx.1 cx.2.1 dX12_readModule_65 rfl (lv_at hl 1 rfl) ?_
        refine md_gR (k := 28) cx hw hin12c (by decide) (by decide) (List.mem_cons_of_mem _ mm_171) dX12_readModule_66 ?_
        refine lv_iload_n cx.1 cx.2.1 dX12_readModule_69 rfl (lv_at hl 0 rfl) ?_
        refine lv_iconst (v := 0) cx.1 cx.2.1 dX12_readModule_70 (by decide) ?_
        obtain ⟨σ17, e_σ17, h⟩ := md_ob h
        refine md_sI (k := 28) hj cx hw (by decide) rfl rfl rfl e_σ17 dX12_readModule_71 (fun H locs hw => ?_)
        refine lv_aload_n cx.1 cx.2.1 dX12_readModule_72 rfl (lv_at hl 1 rfl) ?_
        refine md_gR (k := 30) cx hw hin12c (by decide) (by decide) (List.mem_cons_of_mem _ mm_375) dX12_readModule_73 ?_
        refine lv_iload_n cx.1 cx.2.1 dX12_readModule_76 rfl (lv_at hl 0 rfl) ?_
        refine lv_iconst (v := 0) cx.1 cx.2.1 dX12_readModule_77 (by decide) ?_
        obtain ⟨σ18, e_σ18, h⟩ := md_ob h
        refine md_sI (k := 30) hj cx hw (by decide) rfl rfl rfl e_σ18 dX12_readModule_78 (fun H locs hw => ?_)
        refine lv_aload_n cx.1 cx.2.1 dX12_readModule_79 rfl (lv_at hl 1 rfl) ?_
        obtain ⟨p19, e_p19, h⟩ := md_ob h
        refine hp_callVv (As := []) (rest := []) cx hw (km_X12_next l D cA E _ ad hj hE n σ18  p19 e_p19) (cwV 0 cx.2.2.2.2.2.1 (md_giV mm_92 mm_93 mm_94 mm_5 mm_95) rfl rfl rfl hd_X12_next ⟨Nat.le_of_ble_eq_true rfl, Nat.le_of_ble_eq_true rfl⟩) md_at0 rfl rfl hl.1 rfl (Nat.le_of_ble_eq_true rfl) dX12_readModule_80 ⟨Nat.le_refl _, Nat.le_refl _⟩ (fun u H locs hp hw => ?_)
        obtain rfl := hp
        refine lv_aload_n cx.1 cx.2.1 dX12_readModule_83 rfl (lv_at hl 1 rfl) ?_
        refine lv_iconst (v := 0) cx.1 cx.2.1 dX12_readModule_84 (by decide) ?_
        refine lv_iload_n cx.1 cx.2.1 dX12_readModule_85 rfl (lv_at hl 0 rfl) ?_
        refine lv_iadd cx.1 cx.2.1 dX12_readModule_86 ?_
        refine lv_iconst (v := 1) cx.1 cx.2.1 dX12_readModule_87 (by decide) ?_
        obtain ⟨p20, e_p20, h⟩ := md_ob h
        refine hp_callVv (As := [.int ((0 : Int32) + (mI p13.2 25)), .int 1]) (rest := []) cx hw (km_X12_pattern l D cA E _ ad hj hE n p19.2 (((0 : Int32) + (mI p13.2 25))) (1 : Int32) p20 e_p20) (cwV 2 cx.2.2.2.2.2.1 (md_giV mm_113 mm_114 mm_115 mm_5 mm_116) rfl rfl rfl hd_X12_pattern ⟨Nat.le_of_ble_eq_true rfl, Nat.le_of_ble_eq_true rfl⟩) md_at0 rfl rfl hl.1 rfl (Nat.le_of_ble_eq_true rfl) dX12_readModule_88 ⟨Nat.le_refl _, Nat.le_refl _⟩ (fun u H locs hp hw => ?_)
        obtain rfl := hp
        refine lv_aload_n cx.1 cx.2.1 dX12_readModule_91 rfl (lv_at hl 1 rfl) ?_
        refine lv_bipush (v := 58) cx.1 cx.2.1 dX12_readModule_92 (by decide) ?_
        obtain ⟨p21, e_p21, h⟩ := md_ob h
        refine hp_callVi (As := [.int 58]) (rest := []) cx hw (km_X12_isSign l D cA E _ ad hj hE n p20.2 (58 : Int32) p21 e_p21) (cwV 1 cx.2.2.2.2.2.1 (md_giV mm_84 mm_85 mm_86 mm_5 mm_87) rfl rfl rfl hd_X12_isSign ⟨Nat.le_of_ble_eq_true rfl, Nat.le_of_ble_eq_true rfl⟩) md_at0 rfl rfl hl.1 rfl (Nat.le_of_ble_eq_true rfl) dX12_readModule_94 ⟨Nat.le_refl _, Nat.le_refl _⟩ (fun r u H locs hp hw => ?_)
        obtain ⟨rfl, rfl⟩ := hp
        refine lv_if_eq (tgt := 145) cx.1 cx.2.1 dX12_readModule_97 (by decide) (fun c97 => ?_) (fun c97 => ?_)
        · have h := md_ip c97 h
          exact J145 p21.2 ((mI p13.2 25)) _ _ _ h hw (lv_sub hl [1, 0] rfl)
        · have h := md_in c97 h
          refine lv_aload_n cx.1 cx.2.1 dX12_readModule_100 rfl (lv_at hl 1 rfl) ?_
          obtain ⟨p22, e_p22, h⟩ := md_ob h
          refine hp_callVv (As := []) (rest := []) cx hw (km_X12_next l D cA E _ ad hj hE n p21.2  p22 e_p22) (cwV 0 cx.2.2.2.2.2.1 (md_giV mm_92 mm_93 mm_94 mm_5 mm_95) rfl rfl rfl hd_X12_next ⟨Nat.le_of_ble_eq_true rfl, Nat.le_of_ble_eq_true rfl⟩) md_at0 rfl rfl hl.1 rfl (Nat.le_of_ble_eq_true rfl) dX12_readModule_101 ⟨Nat.le_refl _, Nat.le_refl _⟩ (fun u H locs hp hw => ?_)
          obtain rfl := hp
          refine lv_aload_n cx.1 cx.2.1 dX12_readModule_104 rfl (lv_at hl 1 rfl) ?_
          obtain ⟨p23, e_p23, h⟩ := md_ob h
          refine hp_callVi (As := []) (rest := []) cx hw (km_X12_isName l D cA E _ ad hj hE n p22.2  p23 e_p23) (cwV 0 cx.2.2.2.2.2.1 (md_giV mm_107 mm_108 mm_109 mm_5 mm_110) rfl rfl rfl hd_X12_isName ⟨Nat.le_of_ble_eq_true rfl, Nat.le_of_ble_eq_true rfl⟩) md_at0 rfl rfl hl.1 rfl (Nat.le_of_ble_eq_true rfl) dX12_readModule_105 ⟨Nat.le_refl _, Nat.le_refl _⟩ (fun r u H locs hp hw => ?_)
          obtain ⟨rfl, rfl⟩ := hp
          refine lv_if_eq (tgt := 145) cx.1 cx.2.1 dX12_readModule_108 (by decide) (fun c108 => ?_) (fun c108 => ?_)
          · have h := md_ip c108 h
            exact J145 p23.2 ((mI p13.2 25)) _ _ _ h hw (lv_sub hl [1, 0] rfl)
          · have h := md_in c108 h
            refine lv_aload_n cx.1 cx.2.1 dX12_readModule_111 rfl (lv_at hl 1 rfl) ?_
            refine md_gR (k := 27) cx hw hin12c (by decide) (by decide) (List.mem_cons_of_mem _ mm_170) dX12_readModule_112 ?_
            refine lv_iload_n cx.1 cx.2.1 dX12_readModule_115 rfl (lv_at hl 0 rfl) ?_
            refine lv_aload_n cx.1 cx.2.1 dX12_readModule_116 rfl (lv_at hl 1 rfl) ?_
            refine lv_aload_n cx.1 cx.2.1 dX12_readModule_117 rfl (lv_at hl 1 rfl) ?_
            refine md_gJ (k := 12) cx hw hin12c rfl (by decide) (List.mem_cons_of_mem _ mm_41) dX12_readModule_118 ?_
            obtain ⟨p24, e_p24, h⟩ := md_ob h
            refine hp_callVi (As := [.long (mJ p23.2 12)]) (rest := [.int (mI p13.2 25), .ref (ad 27)]) cx hw (km_X12_moduleOf l D cA E _ ad hj hE n p23.2 ((mJ p23.2 12)) p24 e_p24) (cwV 1 cx.2.2.2.2.2.1 (md_giV mm_262 mm_263 mm_264 mm_5 mm_265) rfl rfl rfl hd_X12_moduleOf ⟨Nat.le_of_ble_eq_true rfl, Nat.le_of_ble_eq_true rfl⟩) md_at0 rfl rfl hl.1 rfl (Nat.le_of_ble_eq_true rfl) dX12_readModule_121 ⟨Nat.le_refl _, Nat.le_refl _⟩ (fun r u H locs hp hw => ?_)
            obtain ⟨rfl, rfl⟩ := hp
            obtain ⟨σ25, e_σ25, h⟩ := md_ob h
            refine md_sI (k := 27) hj cx hw (by decide) rfl rfl rfl e_σ25 dX12_readModule_124 (fun H locs hw => ?_)
            refine lv_aload_n cx.1 cx.2.1 dX12_readModule_125 rfl (lv_at hl 1 rfl) ?_
            refine md_gR (k := 27) cx hw hin12c (by decide) (by decide) (List.mem_cons_of_mem _ mm_170) dX12_readModule_126 ?_
            refine lv_iload_n cx.1 cx.2.1 dX12_readModule_129 rfl (lv_at hl 0 rfl) ?_
            obtain ⟨v26, e_v26, h⟩ := md_ob h
            refine md_lI (k := 27) hj cx hw (by decide) rfl rfl rfl e_v26 dX12_readModule_130 ?_
            refine lv_iconst (v := (-1)) cx.1 cx.2.1 dX12_readModule_131 (by decide) ?_
            refine lv_icmp_ne (tgt := 141) cx.1 cx.2.1 dX12_readModule_132 (by decide) (fun c132 => ?_) (fun c132 => ?_)
            · have h := md_in c132 h
              refine lv_aload_n cx.1 cx.2.1 dX12_readModule_141 rfl (lv_at hl 1 rfl) ?_
              obtain ⟨p27, e_p27, h⟩ := md_ob h
              refine hp_callVv (As := []) (rest := []) cx hw (km_X12_next l D cA E _ ad hj hE n σ25  p27 e_p27) (cwV 0 cx.2.2.2.2.2.1 (md_giV mm_92 mm_93 mm_94 mm_5 mm_95) rfl rfl rfl hd_X12_next ⟨Nat.le_of_ble_eq_true rfl, Nat.le_of_ble_eq_true rfl⟩) md_at0 rfl rfl hl.1 rfl (Nat.le_of_ble_eq_true rfl) dX12_readModule_142 ⟨Nat.le_refl _, Nat.le_refl _⟩ (fun u H locs hp hw => ?_)
              obtain rfl := hp
              exact J145 p27.2 ((mI p13.2 25)) _ _ _ h hw (lv_sub hl [1, 0] rfl)
            · have h := md_ip c132 h
              refine lv_aload_n cx.1 cx.2.1 dX12_readModule_135 rfl (lv_at hl 1 rfl) ?_
              refine lv_iconst (v := 3) cx.1 cx.2.1 dX12_readModule_136 (by decide) ?_
              obtain ⟨p28, e_p28, h⟩ := md_ob h
              refine hp_callVv (As := [.int 3]) (rest := []) cx hw (km_X12_fails l D cA E _ ad hj hE n σ25 (3 : Int32) p28 e_p28) (cwV 1 cx.2.2.2.2.2.1 (md_giV mm_54 mm_55 mm_56 mm_5 mm_57) rfl rfl rfl hd_X12_fails ⟨Nat.le_of_ble_eq_true rfl, Nat.le_of_ble_eq_true rfl⟩) md_at0 rfl rfl hl.1 rfl (Nat.le_of_ble_eq_true rfl) dX12_readModule_137 ⟨Nat.le_refl _, Nat.le_refl _⟩ (fun u H locs hp hw => ?_)
              obtain rfl := hp
              exact hp_vret cx hw (md_retv h) dX12_readModule_140
      · have h := md_in c39 h
        refine lv_aload_n cx.1 cx.2.1 dX12_readModule_42 rfl (lv_at hl 1 rfl) ?_
        refine lv_iconst (v := 2) cx.1 cx.2.1 dX12_readModule_43 (by decide) ?_
        obtain ⟨p29, e_p29, h⟩ := md_ob h
        refine hp_callVv (As := [.int 2]) (rest := []) cx hw (km_X12_fails l D cA E _ ad hj hE n p14.2 (2 : Int32) p29 e_p29) (cwV 1 cx.2.2.2.2.2.1 (md_giV mm_54 mm_55 mm_56 mm_5 mm_57) rfl rfl rfl hd_X12_fails ⟨Nat.le_of_ble_eq_true rfl, Nat.le_of_ble_eq_true rfl⟩) md_at0 rfl rfl hl.1 rfl (Nat.le_of_ble_eq_true rfl) dX12_readModule_44 ⟨Nat.le_refl _, Nat.le_refl _⟩ (fun u H locs hp hw => ?_)
        obtain rfl := hp
        exact hp_vret cx hw (md_retv h) dX12_readModule_47
    · have h := md_ip c21 h
      refine lv_aload_n cx.1 cx.2.1 dX12_readModule_24 rfl (lv_at hl 1 rfl) ?_
      refine lv_iconst (v := 4) cx.1 cx.2.1 dX12_readModule_25 (by decide) ?_
      obtain ⟨p30, e_p30, h⟩ := md_ob h
      refine hp_callVv (As := [.int 4]) (rest := []) cx hw (km_X12_fails l D cA E _ ad hj hE n p13.2 (4 : Int32) p30 e_p30) (cwV 1 cx.2.2.2.2.2.1 (md_giV mm_54 mm_55 mm_56 mm_5 mm_57) rfl rfl rfl hd_X12_fails ⟨Nat.le_of_ble_eq_true rfl, Nat.le_of_ble_eq_true rfl⟩) md_at0 rfl rfl hl.1 rfl (Nat.le_of_ble_eq_true rfl) dX12_readModule_26 ⟨Nat.le_refl _, Nat.le_refl _⟩ (fun u H locs hp hw => ?_)
      obtain rfl := hp
      exact hp_vret cx hw (md_retv h) dX12_readModule_29
  · have h := md_ip c9 h
    exact hp_vret cx hw (md_retv h) dX12_readModule_12
