set_option maxHeartbeats 4000000 in
set_option maxRecDepth 100000 in
theorem kc_X1_makeFun (l : Launch) (D : va_G) (cA : Nat → ClassId) (E : hp_N) (sz : Nat) (ad : Nat → Nat → Nat) (ca0 : Nat → Nat) (hj : cd_inj ad ca0) (oq sgq sgv : Nat) (hE : cd_E E oq sgq sgv) (n : Nat) (σ0 : cd_S) (b0 : cd_B) (a1 : Nat) (a2 : Nat) (hb_a1 : a1 < 8) (hb_a2 : a2 < 60) (p : (Int32 × cd_S × cd_B)) (h : f_X1_makeFun n σ0 b0 a1 a2 = some p) : (p.2.2.1 ≤ b0.1 ∧ p.2.2.2 ≤ b0.2) ∧ Met l yX1_makeFun (Cond.code yX1_makeFun cX1_makeFun 6 (some .int) :: v_CLS) ({ frames := 5, cells := b0.1 - p.2.2.1, slots := b0.2 - p.2.2.2, locals := 133 }) (hp_Pc D vwCl (hp_Tl cA) E sz (cd_pic cA ad ca0 σ0) [.ref (ad 1 0), .ref (ad 7 a1), .ref (ad 9 a2)]) (hp_Qi D vwCl (hp_Tl cA) sz (cd_pic cA ad ca0 σ0) (fun r u => r = p.1 ∧ ∃ ca1, cd_inj ad ca1 ∧ u = cd_pic cA ad ca1 p.2.1)) (b0.1 - p.2.2.1) (b0.2 - p.2.2.2) (hp_A (cd_pic cA ad ca0 σ0) sz) := by
  obtain ⟨hm0, hn0, h⟩ := cd_cks h
  have hM0 : p.2.2.1 ≤ b0.1 ∧ p.2.2.2 ≤ b0.2 := ⟨hm0, hn0⟩
  refine ⟨hM0, ?_⟩
  refine hp_ofW (cc := cX1_makeFun) (maxL := 6) (ret := (some .int)) (by decide) rfl (Nat.le_of_ble_eq_true rfl) ?_
  intro pp ee ss mm bb mt cd ls cx hsz hw hl
  have hl : lv_has ls 6 [(0, .ref (ad 1 0)), (1, .ref (ad 7 a1)), (2, .ref (ad 9 a2))] := hl
  refine W.widen (k := b0.1 - b0.1) (n := b0.2 - b0.2) (Nat.zero_le _) (Nat.zero_le _) ?_
  refine lv_aload_n cx.1 cx.2.1 dX1_makeFun_0 rfl (lv_at hl 0 rfl) ?_
  obtain ⟨p1, e_p1, h⟩ := md_ob h
  refine hp_callVi (As := []) (rest := []) cx hw (kc_X1_thingCount l D cA E _ ad _ hj oq sgq sgv hE n σ0  p1 e_p1) (cwV 0 cx.2.2.2.2.2.1 (cd_giV cm_171 cm_172 cm_173 cm_130 cm_174) rfl rfl rfl hdc_X1_thingCount ⟨Nat.le_of_ble_eq_true rfl, Nat.le_of_ble_eq_true rfl⟩) (cd_atO hj (by decide) (by decide)) rfl rfl hl.1 rfl (Nat.le_of_ble_eq_true rfl) dX1_makeFun_1 ⟨by (try dsimp only); omega, by (try dsimp only); omega⟩ (fun r u H locs hp hw => ?_)
  obtain ⟨rfl, ca, hj, rfl⟩ := hp
  refine lv_sipush (v := 2000) cx.1 cx.2.1 dX1_makeFun_4 (by decide) ?_
  refine lv_icmp_lt (tgt := 17) cx.1 cx.2.1 dX1_makeFun_7 (by decide) (fun c7 => ?_) (fun c7 => ?_)
  · have h := md_ip c7 h
    refine lv_aload_n cx.1 cx.2.1 dX1_makeFun_17 rfl (lv_at hl 0 rfl) ?_
    refine lv_aload_n cx.1 cx.2.1 dX1_makeFun_18 rfl (lv_at hl 2 rfl) ?_
    refine cd_gI (o := 9) (k := 0) (f := 288) hj cx hw hic9 rfl ⟨by decide, rfl, by decide, rfl⟩ rfl (show _ < 60 by omega) (List.mem_cons_of_mem _ cm_70) dX1_makeFun_19 ?_
    obtain ⟨p2, e_p2, h⟩ := md_ob h
    obtain ⟨hm3, hn3, h⟩ := cd_cks h
    have hM3 : p.2.2.1 ≤ p2.2.2.1 ∧ p.2.2.2 ≤ p2.2.2.2 := ⟨hm3, hn3⟩
    have hle2 := (kc_X1_addThing l D cA E sz ad _ hj oq sgq sgv hE n p1.2 b0 ((cI p1.2 288 a2)) p2 e_p2).1
    refine hp_callVi (As := [.int (cI p1.2 288 a2)]) (rest := []) cx hw ((kc_X1_addThing l D cA E _ ad _ hj oq sgq sgv hE n p1.2 b0 ((cI p1.2 288 a2)) p2 e_p2).2) (cwV 1 cx.2.2.2.2.2.1 (cd_giV cm_175 cm_176 cm_177 cm_130 cm_178) rfl rfl rfl hdc_X1_addThing ⟨Nat.le_of_ble_eq_true rfl, Nat.le_of_ble_eq_true rfl⟩) (cd_atO hj (by decide) (by decide)) rfl rfl hl.1 rfl (Nat.le_of_ble_eq_true rfl) dX1_makeFun_22 ⟨by (try dsimp only); omega, by (try dsimp only); omega⟩ (fun r u H locs hp hw => ?_)
    obtain ⟨rfl, ca, hj, rfl⟩ := hp
    refine W.widen (k := b0.1 - p2.2.2.1) (n := b0.2 - p2.2.2.2) (by omega) (by omega) ?_
    refine lv_istore_n (lv' := [(3, .int p2.1), (0, .ref (ad 1 0)), (1, .ref (ad 7 a1)), (2, .ref (ad 9 a2))]) cx.1 cx.2.1 dX1_makeFun_25 rfl hl (by decide) rfl (fun ls hl => ?_)
    refine lv_aload_n cx.1 cx.2.1 dX1_makeFun_26 rfl (lv_at hl 2 rfl) ?_
    refine cd_gO (o2 := 6) (e2 := (9 + 1 * a1)) (o := 7) (k := 6) (f := 230) hj cx hw hic7 rfl ⟨by decide, rfl, by decide, rfl⟩ rfl (show _ < 8 by omega) ⟨rfl, rfl⟩ (List.mem_cons_of_mem _ cm_89) dX1_makeFun_27 ?_
    refine cd_gI (o := 6) (k := 1) (f := 193) hj cx hw hic6 rfl ⟨by decide, rfl, by decide, rfl⟩ rfl (show _ < 197 by omega) (List.mem_cons_of_mem _ cm_74) dX1_makeFun_30 ?_
    refine lv_aload_n cx.1 cx.2.1 dX1_makeFun_33 rfl (lv_at hl 3 rfl) ?_
    refine cd_gI (o := 9) (k := 11) (f := 299) hj cx hw hic9 rfl ⟨by decide, rfl, by decide, rfl⟩ rfl (show _ < 60 by omega) (List.mem_cons_of_mem _ cm_268) dX1_makeFun_34 ?_
    refine lv_isub cx.1 cx.2.1 dX1_makeFun_37 ?_
    refine lv_istore (lv' := [(4, .int ((cI p2.2.1 193 ((9 + 1 * a1))) - (cI p2.2.1 299 a2))), (3, .int p2.1), (0, .ref (ad 1 0)), (1, .ref (ad 7 a1)), (2, .ref (ad 9 a2))]) cx.1 cx.2.1 dX1_makeFun_38 hl (by decide) rfl (fun ls hl => ?_)
    refine lv_iconst (v := 0) cx.1 cx.2.1 dX1_makeFun_40 (by decide) ?_
    refine lv_istore (lv' := [(5, .int 0), (4, .int ((cI p2.2.1 193 ((9 + 1 * a1))) - (cI p2.2.1 299 a2))), (3, .int p2.1), (0, .ref (ad 1 0)), (1, .ref (ad 7 a1)), (2, .ref (ad 9 a2))]) cx.1 cx.2.1 dX1_makeFun_41 hl (by decide) rfl (fun ls hl => ?_)
    have L43 : ∀ (j : Nat) (ca : Nat → Nat) (hj : cd_inj ad ca) (σ : cd_S) (b : cd_B) (l3 : Int32) (l4 : Int32) (l5 : Int32) (q : (cd_S × cd_B × Int32)) (H : Heap) (locs : List Loc) (ls : Array Slot), b.1 ≤ b0.1 → b.2 ≤ b0.2 → p.2.2.1 ≤ b.1 → p.2.2.2 ≤ b.2 → p.2.2.1 ≤ q.2.1.1 → p.2.2.2 ≤ q.2.1.2 → f_X1_makeFun_L43 n a1 a2 l3 l4 j σ b l5 = some q → hp_w D vwCl (hp_Tl cA) E (hp_A (cd_pic cA ad ca0 σ0) sz) ss H locs (cd_pic cA ad ca σ) → lv_has ls 6 [(0, .ref (ad 1 0)), (1, .ref (ad 7 a1)), (2, .ref (ad 9 a2)), (3, .int l3), (4, .int l4), (5, .int l5)] → (∀ (ca : Nat → Nat) (hj : cd_inj ad ca) (H : Heap) (locs : List Loc) (ls : Array Slot), q.2.1.1 ≤ b0.1 → q.2.1.2 ≤ b0.2 → hp_w D vwCl (hp_Tl cA) E (hp_A (cd_pic cA ad ca0 σ0) sz) ss H locs (cd_pic cA ad ca q.1) → lv_has ls 6 [(1, .ref (ad 7 a1)), (3, .int l3), (4, .int l4)] → W pp l ee ({ frames := 5, cells := b0.1 - p.2.2.1, slots := b0.2 - p.2.2.2, locals := 133 }) ss mm [.ref (ad 1 0), .ref (ad 7 a1), .ref (ad 9 a2)].toArray bb mt cd H locs (b0.1 - q.2.1.1) (b0.2 - q.2.1.2) (MQ bb (hp_Qi D vwCl (hp_Tl cA) sz (cd_pic cA ad ca0 σ0) (fun r u => r = p.1 ∧ ∃ ca1, cd_inj ad ca1 ∧ u = cd_pic cA ad ca1 p.2.1)) [.ref (ad 1 0), .ref (ad 7 a1), .ref (ad 9 a2)].toArray ss (b0.1 - p.2.2.1) (b0.2 - p.2.2.2) (hp_A (cd_pic cA ad ca0 σ0) sz)) (F0 mm 77 ls [])) → W pp l ee ({ frames := 5, cells := b0.1 - p.2.2.1, slots := b0.2 - p.2.2.2, locals := 133 }) ss mm [.ref (ad 1 0), .ref (ad 7 a1), .ref (ad 9 a2)].toArray bb mt cd H locs (b0.1 - b.1) (b0.2 - b.2) (MQ bb (hp_Qi D vwCl (hp_Tl cA) sz (cd_pic cA ad ca0 σ0) (fun r u => r = p.1 ∧ ∃ ca1, cd_inj ad ca1 ∧ u = cd_pic cA ad ca1 p.2.1)) [.ref (ad 1 0), .ref (ad 7 a1), .ref (ad 9 a2)].toArray ss (b0.1 - p.2.2.1) (b0.2 - p.2.2.2) (hp_A (cd_pic cA ad ca0 σ0) sz)) (F0 mm 43 ls []) := by
      intro j
      induction j with
      | zero => intro ca hj σ b l3 l4 l5 q H locs ls hb1 hb2 hf1 hf2 hq1 hq2 h; exact nomatch h
      | succ j ih =>
        intro ca hj σ b l3 l4 l5 q H locs ls hb1 hb2 hf1 hf2 hq1 hq2 h hw hl K
        unfold f_X1_makeFun_L43 at h
        refine lv_iload cx.1 cx.2.1 dX1_makeFun_43 (lv_at hl 5 rfl) ?_
        refine lv_aload_n cx.1 cx.2.1 dX1_makeFun_45 rfl (lv_at hl 2 rfl) ?_
        refine cd_gI (o := 9) (k := 11) (f := 299) hj cx hw hic9 rfl ⟨by decide, rfl, by decide, rfl⟩ rfl (show _ < 60 by omega) (List.mem_cons_of_mem _ cm_268) dX1_makeFun_46 ?_
        refine lv_icmp_ge (tgt := 77) cx.1 cx.2.1 dX1_makeFun_49 (by decide) (fun c49 => ?_) (fun c49 => ?_)
        · have h := md_ip c49 h
          obtain rfl := Option.some.inj h
          exact K _ hj _ _ _ (by (try dsimp only); omega) (by (try dsimp only); omega) hw (lv_sub hl [1, 3, 4] rfl)
        · have h := md_in c49 h
          refine lv_aload_n cx.1 cx.2.1 dX1_makeFun_52 rfl (lv_at hl 0 rfl) ?_
          refine cd_gO (o2 := 6) (e2 := 7) (o := 1) (k := 6) (f := 38) hj cx hw hic1 rfl ⟨by decide, rfl, by decide, rfl⟩ rfl (by decide) ⟨rfl, rfl⟩ (List.mem_cons_of_mem _ cm_162) dX1_makeFun_53 ?_
          refine lv_aload_n cx.1 cx.2.1 dX1_makeFun_56 rfl (lv_at hl 1 rfl) ?_
          refine cd_gO (o2 := 6) (e2 := (9 + 1 * a1)) (o := 7) (k := 6) (f := 230) hj cx hw hic7 rfl ⟨by decide, rfl, by decide, rfl⟩ rfl (show _ < 8 by omega) ⟨rfl, rfl⟩ (List.mem_cons_of_mem _ cm_89) dX1_makeFun_57 ?_
          refine lv_iload cx.1 cx.2.1 dX1_makeFun_60 (lv_at hl 4 rfl) ?_
          refine lv_iload cx.1 cx.2.1 dX1_makeFun_62 (lv_at hl 5 rfl) ?_
          refine lv_iadd cx.1 cx.2.1 dX1_makeFun_64 ?_
          obtain ⟨p4, e_p4, h⟩ := md_ob h
          refine hp_callVl (As := [.int (l4 + l5)]) (rest := [.ref (ad 6 7)]) cx hw (kc_X6_get l D cA E _ ad _ hj oq sgq sgv hE n σ ((9 + 1 * a1)) ((l4 + l5)) (show _ < 197 by omega) p4 e_p4) (cwV 1 cx.2.2.2.2.2.1 (cd_giV cm_273 cm_240 cm_241 cm_5 cm_242) rfl rfl rfl hdc_X6_get ⟨Nat.le_of_ble_eq_true rfl, Nat.le_of_ble_eq_true rfl⟩) (cd_atO hj (by decide) (show _ < 197 by omega)) rfl rfl hl.1 rfl (Nat.le_of_ble_eq_true rfl) dX1_makeFun_65 ⟨by (try dsimp only); omega, by (try dsimp only); omega⟩ (fun r u H locs hp hw => ?_)
          obtain ⟨rfl, ca, hj, rfl⟩ := hp
          obtain ⟨p5, e_p5, h⟩ := md_ob h
          obtain ⟨hm6, hn6, h⟩ := cd_cks h
          have hM6 : p.2.2.1 ≤ p5.2.2.1 ∧ p.2.2.2 ≤ p5.2.2.2 := ⟨Nat.le_trans hq1 hm6, Nat.le_trans hq2 hn6⟩
          have hle5 := (kc_X6_add l D cA E sz ad _ hj oq sgq sgv hE n p4.2 b 7 (p4.1) (by decide) p5 e_p5).1
          refine hp_callVv (As := [.long p4.1]) (rest := []) cx hw ((kc_X6_add l D cA E _ ad _ hj oq sgq sgv hE n p4.2 b 7 (p4.1) (by decide) p5 e_p5).2) (cwV 1 cx.2.2.2.2.2.1 (cd_giV cm_71 cm_40 cm_41 cm_5 cm_42) rfl rfl rfl hdc_X6_add ⟨Nat.le_of_ble_eq_true rfl, Nat.le_of_ble_eq_true rfl⟩) (cd_atO hj (by decide) (by decide)) rfl rfl hl.1 rfl (Nat.le_of_ble_eq_true rfl) dX1_makeFun_68 ⟨by (try dsimp only); omega, by (try dsimp only); omega⟩ (fun u H locs hp hw => ?_)
          obtain ⟨ca, hj, rfl⟩ := hp
          refine W.widen (k := b0.1 - p5.2.2.1) (n := b0.2 - p5.2.2.2) (by omega) (by omega) ?_
          refine lv_iinc (v := (l5 + 1)) (lv' := [(5, .int (l5 + 1)), (0, .ref (ad 1 0)), (1, .ref (ad 7 a1)), (2, .ref (ad 9 a2)), (3, .int l3), (4, .int l4)]) cx.1 cx.2.1 dX1_makeFun_71 hl (k := 5) rfl rfl (by decide) rfl (fun ls hl => ?_)
          refine lv_goto (tgt := 43) cx.1 cx.2.1 dX1_makeFun_74 (by decide) ?_
          exact ih _ hj p5.2.1 (p5.2.2) l3 l4 ((l5 + 1)) q _ _ _ (by omega) (by omega) (by omega) (by omega) hq1 hq2 h hw (lv_sub hl [1, 2, 3, 4, 5, 0] rfl) K
    obtain ⟨q7, e_q7, h⟩ := md_ob h
    obtain ⟨hm8, hn8, h⟩ := cd_cks h
    have hM8 : p.2.2.1 ≤ q7.2.1.1 ∧ p.2.2.2 ≤ q7.2.1.2 := ⟨hm8, hn8⟩
    refine L43 n _ hj p2.2.1 (p2.2.2) (p2.1) (((cI p2.2.1 193 ((9 + 1 * a1))) - (cI p2.2.1 299 a2))) 0 q7 _ _ _ (by omega) (by omega) (by omega) (by omega) hM8.1 hM8.2 e_q7 hw (lv_sub hl [3, 4, 5, 2, 1, 0] rfl) (fun ca hj H locs ls hb1 hb2 hw hl => ?_)
    refine lv_aload_n cx.1 cx.2.1 dX1_makeFun_77 rfl (lv_at hl 0 rfl) ?_
    refine cd_gO (o2 := 6) (e2 := (9 + 1 * a1)) (o := 7) (k := 6) (f := 230) hj cx hw hic7 rfl ⟨by decide, rfl, by decide, rfl⟩ rfl (show _ < 8 by omega) ⟨rfl, rfl⟩ (List.mem_cons_of_mem _ cm_89) dX1_makeFun_78 ?_
    refine lv_iload cx.1 cx.2.1 dX1_makeFun_81 (lv_at hl 2 rfl) ?_
    obtain ⟨p9, e_p9, h⟩ := md_ob h
    refine hp_callVv (As := [.int ((cI p2.2.1 193 ((9 + 1 * a1))) - (cI p2.2.1 299 a2))]) (rest := []) cx hw (kc_X6_cut l D cA E _ ad _ hj oq sgq sgv hE n q7.1 ((9 + 1 * a1)) (((cI p2.2.1 193 ((9 + 1 * a1))) - (cI p2.2.1 299 a2))) (show _ < 197 by omega) p9 e_p9) (cwV 1 cx.2.2.2.2.2.1 (cd_giV cm_195 cm_3 cm_4 cm_5 cm_6) rfl rfl rfl hdc_X6_cut ⟨Nat.le_of_ble_eq_true rfl, Nat.le_of_ble_eq_true rfl⟩) (cd_atO hj (by decide) (show _ < 197 by omega)) rfl rfl hl.1 rfl (Nat.le_of_ble_eq_true rfl) dX1_makeFun_83 ⟨by (try dsimp only); omega, by (try dsimp only); omega⟩ (fun u H locs hp hw => ?_)
    obtain ⟨ca, hj, rfl⟩ := hp
    refine lv_aload_n cx.1 cx.2.1 dX1_makeFun_86 rfl (lv_at hl 0 rfl) ?_
    refine lv_iconst (v := 3) cx.1 cx.2.1 dX1_makeFun_87 (by decide) ?_
    refine lv_iload_n cx.1 cx.2.1 dX1_makeFun_88 rfl (lv_at hl 1 rfl) ?_
    obtain ⟨p10, e_p10, h⟩ := md_ob h
    refine hp_callSl (As := [.int 3, .int p2.1]) (rest := [.ref (ad 7 a1)]) cx hw (kc_X1_valueOf l D cA E _ ad _ hj oq sgq sgv hE n p9.2 (3 : Int32) (p2.1) p10 e_p10) (cwS 2 cx.2.2.2.2.2.1 (cd_giS cm_154 cm_155 cm_130 cm_156) rfl rfl rfl hdc_X1_valueOf ⟨Nat.le_of_ble_eq_true rfl, Nat.le_of_ble_eq_true rfl⟩) rfl hl.1 rfl (Nat.le_of_ble_eq_true rfl) dX1_makeFun_89 ⟨by (try dsimp only); omega, by (try dsimp only); omega⟩ (fun r u H locs hp hw => ?_)
    obtain ⟨rfl, ca, hj, rfl⟩ := hp
    obtain ⟨p11, e_p11, h⟩ := md_ob h
    obtain ⟨hm12, hn12, h⟩ := cd_cks h
    have hM12 : p.2.2.1 ≤ p11.2.2.1 ∧ p.2.2.2 ≤ p11.2.2.2 := ⟨hm12, hn12⟩
    have hle11 := (kc_X1_push l D cA E sz ad _ hj oq sgq sgv hE n p10.2 (q7.2.1) a1 (p10.1) (show _ < 8 by omega) p11 e_p11).1
    refine hp_callSi (As := [.ref (ad 7 a1), .long p10.1]) (rest := []) cx hw ((kc_X1_push l D cA E _ ad _ hj oq sgq sgv hE n p10.2 (q7.2.1) a1 (p10.1) (show _ < 8 by omega) p11 e_p11).2) (cwS 2 cx.2.2.2.2.2.1 (cd_giS cm_157 cm_158 cm_130 cm_159) rfl rfl rfl hdc_X1_push ⟨Nat.le_of_ble_eq_true rfl, Nat.le_of_ble_eq_true rfl⟩) rfl hl.1 rfl (Nat.le_of_ble_eq_true rfl) dX1_makeFun_92 ⟨by (try dsimp only); omega, by (try dsimp only); omega⟩ (fun r u H locs hp hw => ?_)
    obtain ⟨rfl, ca, hj, rfl⟩ := hp
    refine W.widen (k := b0.1 - p11.2.2.1) (n := b0.2 - p11.2.2.2) (by omega) (by omega) ?_
    exact hp_iret cx hw (cd_retb hj h) dX1_makeFun_95 (cd_le1 h) (cd_le2 h)
  · have h := md_in c7 h
    refine lv_aload_n cx.1 cx.2.1 dX1_makeFun_10 rfl (lv_at hl 1 rfl) ?_
    refine lv_bipush (v := 9) cx.1 cx.2.1 dX1_makeFun_11 (by decide) ?_
    obtain ⟨p13, e_p13, h⟩ := md_ob h
    refine hp_callSi (As := [.ref (ad 7 a1), .int 9]) (rest := []) cx hw (kc_X1_fail l D cA E _ ad _ hj oq sgq sgv hE n p1.2 a1 (9 : Int32) (show _ < 8 by omega) p13 e_p13) (cwS 2 cx.2.2.2.2.2.1 (cd_giS cm_132 cm_133 cm_130 cm_134) rfl rfl rfl hdc_X1_fail ⟨Nat.le_of_ble_eq_true rfl, Nat.le_of_ble_eq_true rfl⟩) rfl hl.1 rfl (Nat.le_of_ble_eq_true rfl) dX1_makeFun_13 ⟨by (try dsimp only); omega, by (try dsimp only); omega⟩ (fun r u H locs hp hw => ?_)
    obtain ⟨rfl, ca, hj, rfl⟩ := hp
    exact hp_iret cx hw (cd_retb hj h) dX1_makeFun_16 (cd_le1 h) (cd_le2 h)
set_option maxHeartbeats 4000000 in
set_option maxRecDepth 100000 in
theorem kc_X6_set (l : Launch) (D : va_G) (cA : Nat → ClassId) (E : hp_N) (sz : Nat) (ad : Nat → Nat → Nat) (ca0 : Nat → Nat) (hj : cd_inj ad ca0) (oq sgq sgv : Nat) (hE : cd_E E oq sgq sgv) (n : Nat) (σ0 : cd_S) (a0 : Nat) (a1 : Int32) (a2 : Int64) (hb_a0 : a0 < 197) (p : (Int32 × cd_S)) (h : f_X6_set n σ0 a0 a1 a2 = some p) : Met l yX6_set (Cond.code yX6_set cX6_set 4 none :: v_CLS) ({ frames := 0, cells := 0, slots := 0, locals := 0 }) (hp_Pc D vwCl (hp_Tl cA) E sz (cd_pic cA ad ca0 σ0) [.ref (ad 6 a0), .int a1, .long a2]) (hp_Qv D vwCl (hp_Tl cA) sz (cd_pic cA ad ca0 σ0) (fun u => ∃ ca1, cd_inj ad ca1 ∧ u = cd_pic cA ad ca1 p.2)) 0 0 (hp_A (cd_pic cA ad ca0 σ0) sz) := by
  refine hp_ofW (cc := cX6_set) (maxL := 4) (ret := none) (by decide) rfl (Nat.le_of_ble_eq_true rfl) ?_
  intro pp ee ss mm bb mt cd ls cx hsz hw hl
  have hl : lv_has ls 4 [(0, .ref (ad 6 a0)), (1, .int a1), (2, .long a2)] := hl
  refine lv_iload_n cx.1 cx.2.1 dX6_set_0 rfl (lv_at hl 1 rfl) ?_
  refine lv_if_lt (tgt := 19) cx.1 cx.2.1 dX6_set_1 (by decide) (fun c1 => ?_) (fun c1 => ?_)
  · have h := md_ip c1 h
    exact hp_vret cx hw ((cd_ret hj h).2) dX6_set_19
  · have h := md_in c1 h
    refine lv_iload_n cx.1 cx.2.1 dX6_set_4 rfl (lv_at hl 1 rfl) ?_
    refine lv_aload_n cx.1 cx.2.1 dX6_set_5 rfl (lv_at hl 0 rfl) ?_
    refine cd_gI (o := 6) (k := 1) (f := 193) hj cx hw hic6 rfl ⟨by decide, rfl, by decide, rfl⟩ rfl (show _ < 197 by omega) (List.mem_cons_of_mem _ cm_0) dX6_set_6 ?_
    refine lv_icmp_ge (tgt := 19) cx.1 cx.2.1 dX6_set_9 (by decide) (fun c9 => ?_) (fun c9 => ?_)
    · have h := md_ip c9 h
      exact hp_vret cx hw ((cd_ret hj h).2) dX6_set_19
    · have h := md_in c9 h
      refine lv_aload_n cx.1 cx.2.1 dX6_set_12 rfl (lv_at hl 0 rfl) ?_
      refine cd_gC (o := 6) (k := 0) (f := 192) hj cx hw hic6 rfl ⟨by decide, rfl, by decide, rfl⟩ rfl (show _ < 197 by omega) (List.mem_cons_of_mem _ cm_15) dX6_set_13 ?_
      refine lv_iload_n cx.1 cx.2.1 dX6_set_16 rfl (lv_at hl 1 rfl) ?_
      refine lv_lload_n cx.1 cx.2.1 dX6_set_17 rfl (lv_at hl 2 rfl) ?_
      obtain ⟨σ1, e_σ1, h⟩ := md_ob h
      refine cd_sF hj cx hw (show _ < 197 by omega) e_σ1 dX6_set_18 (fun H locs hw => ?_)
      exact hp_vret cx hw ((cd_ret hj h).2) dX6_set_19
set_option maxHeartbeats 4000000 in
set_option maxRecDepth 100000 in
theorem kc_X1_put (l : Launch) (D : va_G) (cA : Nat → ClassId) (E : hp_N) (sz : Nat) (ad : Nat → Nat → Nat) (ca0 : Nat → Nat) (hj : cd_inj ad ca0) (oq sgq sgv : Nat) (hE : cd_E E oq sgq sgv) (n : Nat) (σ0 : cd_S) (a0 : Nat) (a1 : Int32) (hb_a0 : a0 < 8) (p : (Int32 × cd_S)) (h : f_X1_put n σ0 a0 a1 = some p) : Met l yX1_put (Cond.code yX1_put cX1_put 2 (some .int) :: v_CLS) ({ frames := 2, cells := 0, slots := 0, locals := 40 }) (hp_Pc D vwCl (hp_Tl cA) E sz (cd_pic cA ad ca0 σ0) [.ref (ad 7 a0), .int a1]) (hp_Qi D vwCl (hp_Tl cA) sz (cd_pic cA ad ca0 σ0) (fun r u => r = p.1 ∧ ∃ ca1, cd_inj ad ca1 ∧ u = cd_pic cA ad ca1 p.2)) 0 0 (hp_A (cd_pic cA ad ca0 σ0) sz) := by
  refine hp_ofW (cc := cX1_put) (maxL := 2) (ret := (some .int)) (by decide) rfl (Nat.le_of_ble_eq_true rfl) ?_
  intro pp ee ss mm bb mt cd ls cx hsz hw hl
  have hl : lv_has ls 2 [(0, .ref (ad 7 a0)), (1, .int a1)] := hl
  refine lv_aload_n cx.1 cx.2.1 dX1_put_0 rfl (lv_at hl 0 rfl) ?_
  refine cd_gO (o2 := 6) (e2 := (9 + 1 * a0)) (o := 7) (k := 6) (f := 230) hj cx hw hic7 rfl ⟨by decide, rfl, by decide, rfl⟩ rfl (show _ < 8 by omega) ⟨rfl, rfl⟩ (List.mem_cons_of_mem _ cm_89) dX1_put_1 ?_
  refine lv_aload_n cx.1 cx.2.1 dX1_put_4 rfl (lv_at hl 0 rfl) ?_
  obtain ⟨p1, e_p1, h⟩ := md_ob h
  refine hp_callVi (As := []) (rest := [.ref (ad 6 (9 + 1 * a0))]) cx hw (kc_X7_baseNow l D cA E _ ad _ hj oq sgq sgv hE n σ0 a0 (show _ < 8 by omega) p1 e_p1) (cwV 0 cx.2.2.2.2.2.1 (cd_giV cm_375 cm_236 cm_237 cm_94 cm_238) rfl rfl rfl hdc_X7_baseNow ⟨Nat.le_of_ble_eq_true rfl, Nat.le_of_ble_eq_true rfl⟩) (cd_atO hj (by decide) (show _ < 8 by omega)) rfl rfl hl.1 rfl (Nat.le_of_ble_eq_true rfl) dX1_put_5 ⟨Nat.le_refl _, Nat.le_refl _⟩ (fun r u H locs hp hw => ?_)
  obtain ⟨rfl, ca, hj, rfl⟩ := hp
  refine lv_iload_n cx.1 cx.2.1 dX1_put_8 rfl (lv_at hl 1 rfl) ?_
  refine lv_iadd cx.1 cx.2.1 dX1_put_9 ?_
  refine lv_aload_n cx.1 cx.2.1 dX1_put_10 rfl (lv_at hl 0 rfl) ?_
  refine cd_gO (o2 := 6) (e2 := (9 + 1 * a0)) (o := 7) (k := 6) (f := 230) hj cx hw hic7 rfl ⟨by decide, rfl, by decide, rfl⟩ rfl (show _ < 8 by omega) ⟨rfl, rfl⟩ (List.mem_cons_of_mem _ cm_89) dX1_put_11 ?_
  obtain ⟨p2, e_p2, h⟩ := md_ob h
  refine hp_callVl (As := []) (rest := [.int (p1.1 + a1), .ref (ad 6 (9 + 1 * a0))]) cx hw (kc_X6_pop l D cA E _ ad _ hj oq sgq sgv hE n p1.2 ((9 + 1 * a0)) (show _ < 197 by omega) p2 e_p2) (cwV 0 cx.2.2.2.2.2.1 (cd_giV cm_345 cm_346 cm_347 cm_5 cm_348) rfl rfl rfl hdc_X6_pop ⟨Nat.le_of_ble_eq_true rfl, Nat.le_of_ble_eq_true rfl⟩) (cd_atO hj (by decide) (show _ < 197 by omega)) rfl rfl hl.1 rfl (Nat.le_of_ble_eq_true rfl) dX1_put_14 ⟨Nat.le_refl _, Nat.le_refl _⟩ (fun r u H locs hp hw => ?_)
  obtain ⟨rfl, ca, hj, rfl⟩ := hp
  obtain ⟨p3, e_p3, h⟩ := md_ob h
  refine hp_callVv (As := [.int (p1.1 + a1), .long p2.1]) (rest := []) cx hw (kc_X6_set l D cA E _ ad _ hj oq sgq sgv hE n p2.2 ((9 + 1 * a0)) ((p1.1 + a1)) (p2.1) (show _ < 197 by omega) p3 e_p3) (cwV 2 cx.2.2.2.2.2.1 (cd_giV cm_376 cm_377 cm_378 cm_5 cm_379) rfl rfl rfl hdc_X6_set ⟨Nat.le_of_ble_eq_true rfl, Nat.le_of_ble_eq_true rfl⟩) (cd_atO hj (by decide) (show _ < 197 by omega)) rfl rfl hl.1 rfl (Nat.le_of_ble_eq_true rfl) dX1_put_17 ⟨Nat.le_refl _, Nat.le_refl _⟩ (fun u H locs hp hw => ?_)
  obtain ⟨ca, hj, rfl⟩ := hp
  refine lv_iconst (v := 0) cx.1 cx.2.1 dX1_put_20 (by decide) ?_
  exact hp_iret cx hw (cd_ret hj h) dX1_put_21
set_option maxHeartbeats 4000000 in
set_option maxRecDepth 100000 in
theorem kc_X2_fieldSlot (l : Launch) (D : va_G) (cA : Nat → ClassId) (E : hp_N) (sz : Nat) (ad : Nat → Nat → Nat) (ca0 : Nat → Nat) (hj : cd_inj ad ca0) (oq sgq sgv : Nat) (hE : cd_E E oq sgq sgv) (n : Nat) (σ0 : cd_S) (a1 : Int32) (a2 : Int64) (p : (Int32 × cd_S)) (h : f_X2_fieldSlot n σ0 a1 a2 = some p) : Met l yX2_fieldSlot (Cond.code yX2_fieldSlot cX2_fieldSlot 7 (some .int) :: v_CLS) ({ frames := 1, cells := 0, slots := 0, locals := 21 }) (hp_Pc D vwCl (hp_Tl cA) E sz (cd_pic cA ad ca0 σ0) [.ref (ad 2 0), .int a1, .long a2]) (hp_Qi D vwCl (hp_Tl cA) sz (cd_pic cA ad ca0 σ0) (fun r u => r = p.1 ∧ ∃ ca1, cd_inj ad ca1 ∧ u = cd_pic cA ad ca1 p.2)) 0 0 (hp_A (cd_pic cA ad ca0 σ0) sz) := by
  refine hp_ofW (cc := cX2_fieldSlot) (maxL := 7) (ret := (some .int)) (by decide) rfl (Nat.le_of_ble_eq_true rfl) ?_
  intro pp ee ss mm bb mt cd ls cx hsz hw hl
  have hl : lv_has ls 7 [(0, .ref (ad 2 0)), (1, .int a1), (2, .long a2)] := hl
  refine lv_iload_n cx.1 cx.2.1 dX2_fieldSlot_0 rfl (lv_at hl 1 rfl) ?_
  refine lv_istore (lv' := [(4, .int a1), (0, .ref (ad 2 0)), (1, .int a1), (2, .long a2)]) cx.1 cx.2.1 dX2_fieldSlot_1 hl (by decide) rfl (fun ls hl => ?_)
  refine lv_iconst (v := 0) cx.1 cx.2.1 dX2_fieldSlot_3 (by decide) ?_
  refine lv_istore (lv' := [(5, .int 0), (4, .int a1), (0, .ref (ad 2 0)), (1, .int a1), (2, .long a2)]) cx.1 cx.2.1 dX2_fieldSlot_4 hl (by decide) rfl (fun ls hl => ?_)
  have L6 : ∀ (j : Nat) (ca : Nat → Nat) (hj : cd_inj ad ca) (σ : cd_S) (l2 : Int64) (l4 : Int32) (l5 : Int32) (q : ((Int32 × cd_S) ⊕ (cd_S × Int32 × Int32))) (H : Heap) (locs : List Loc) (ls : Array Slot), f_X2_fieldSlot_L6 n l2 j σ l4 l5 = some q → hp_w D vwCl (hp_Tl cA) E (hp_A (cd_pic cA ad ca0 σ0) sz) ss H locs (cd_pic cA ad ca σ) → lv_has ls 7 [(0, .ref (ad 2 0)), (2, .long l2), (4, .int l4), (5, .int l5)] → (∀ t, q = Sum.inr t → (∀ (ca : Nat → Nat) (hj : cd_inj ad ca) (H : Heap) (locs : List Loc) (ls : Array Slot), hp_w D vwCl (hp_Tl cA) E (hp_A (cd_pic cA ad ca0 σ0) sz) ss H locs (cd_pic cA ad ca t.1) → lv_has ls 7 [] → W pp l ee ({ frames := 1, cells := 0, slots := 0, locals := 21 }) ss mm [.ref (ad 2 0), .int a1, .long a2].toArray bb mt cd H locs 0 0 (MQ bb (hp_Qi D vwCl (hp_Tl cA) sz (cd_pic cA ad ca0 σ0) (fun r u => r = p.1 ∧ ∃ ca1, cd_inj ad ca1 ∧ u = cd_pic cA ad ca1 p.2)) [.ref (ad 2 0), .int a1, .long a2].toArray ss 0 0 (hp_A (cd_pic cA ad ca0 σ0) sz)) (F0 mm 86 ls []))) → (∀ r, q = Sum.inl r → r = p) → W pp l ee ({ frames := 1, cells := 0, slots := 0, locals := 21 }) ss mm [.ref (ad 2 0), .int a1, .long a2].toArray bb mt cd H locs 0 0 (MQ bb (hp_Qi D vwCl (hp_Tl cA) sz (cd_pic cA ad ca0 σ0) (fun r u => r = p.1 ∧ ∃ ca1, cd_inj ad ca1 ∧ u = cd_pic cA ad ca1 p.2)) [.ref (ad 2 0), .int a1, .long a2].toArray ss 0 0 (hp_A (cd_pic cA ad ca0 σ0) sz)) (F0 mm 6 ls []) := by
    intro j
    induction j with
    | zero => intro ca hj σ l2 l4 l5 q H locs ls h; exact nomatch h
    | succ j ih =>
      intro ca hj σ l2 l4 l5 q H locs ls h hw hl K KR
      unfold f_X2_fieldSlot_L6 at h
      refine lv_iload cx.1 cx.2.1 dX2_fieldSlot_6 (lv_at hl 3 rfl) ?_
      refine lv_bipush (v := 8) cx.1 cx.2.1 dX2_fieldSlot_8 (by decide) ?_
      refine lv_icmp_ge (tgt := 86) cx.1 cx.2.1 dX2_fieldSlot_10 (by decide) (fun c10 => ?_) (fun c10 => ?_)
      · have h := md_ip c10 h
        exact K _ (Option.some.inj h).symm _ hj _ _ _ hw (lv_sub hl [] rfl)
      · have h := md_in c10 h
        refine lv_aload_n cx.1 cx.2.1 dX2_fieldSlot_13 rfl (lv_at hl 0 rfl) ?_
        refine lv_iload cx.1 cx.2.1 dX2_fieldSlot_14 (lv_at hl 2 rfl) ?_
        obtain ⟨p1, e_p1, h⟩ := md_ob h
        refine hp_callVi (As := [.int l4]) (rest := []) cx hw (kc_X2_isModule l D cA E _ ad _ hj oq sgq sgv hE n σ l4 p1 e_p1) (cwV 1 cx.2.2.2.2.2.1 (cd_giV cm_164 cm_165 cm_166 cm_167 cm_168) rfl rfl rfl hdc_X2_isModule ⟨Nat.le_of_ble_eq_true rfl, Nat.le_of_ble_eq_true rfl⟩) (cd_atO hj (by decide) (by decide)) rfl rfl hl.1 rfl (Nat.le_of_ble_eq_true rfl) dX2_fieldSlot_16 ⟨Nat.le_refl _, Nat.le_refl _⟩ (fun r u H locs hp hw => ?_)
        obtain ⟨rfl, ca, hj, rfl⟩ := hp
        refine lv_if_eq (tgt := 86) cx.1 cx.2.1 dX2_fieldSlot_19 (by decide) (fun c19 => ?_) (fun c19 => ?_)
        · have h := md_ip c19 h
          exact K _ (Option.some.inj h).symm _ hj _ _ _ hw (lv_sub hl [] rfl)
        · have h := md_in c19 h
          refine lv_iconst (v := 0) cx.1 cx.2.1 dX2_fieldSlot_22 (by decide) ?_
          refine lv_istore (lv' := [(6, .int 0), (0, .ref (ad 2 0)), (2, .long l2), (4, .int l4), (5, .int l5)]) cx.1 cx.2.1 dX2_fieldSlot_23 hl (by decide) rfl (fun ls hl => ?_)
          have L25 : ∀ (j : Nat) (ca : Nat → Nat) (hj : cd_inj ad ca) (σ : cd_S) (l2 : Int64) (l4 : Int32) (l5 : Int32) (l6 : Int32) (q : ((Int32 × cd_S) ⊕ (cd_S × Int32))) (H : Heap) (locs : List Loc) (ls : Array Slot), f_X2_fieldSlot_L25 n l2 l4 l5 j σ l6 = some q → hp_w D vwCl (hp_Tl cA) E (hp_A (cd_pic cA ad ca0 σ0) sz) ss H locs (cd_pic cA ad ca σ) → lv_has ls 7 [(0, .ref (ad 2 0)), (2, .long l2), (4, .int l4), (5, .int l5), (6, .int l6)] → (∀ t, q = Sum.inr t → (∀ (ca : Nat → Nat) (hj : cd_inj ad ca) (H : Heap) (locs : List Loc) (ls : Array Slot), hp_w D vwCl (hp_Tl cA) E (hp_A (cd_pic cA ad ca0 σ0) sz) ss H locs (cd_pic cA ad ca t.1) → lv_has ls 7 [(0, .ref (ad 2 0)), (2, .long l2), (4, .int l4), (5, .int l5)] → W pp l ee ({ frames := 1, cells := 0, slots := 0, locals := 21 }) ss mm [.ref (ad 2 0), .int a1, .long a2].toArray bb mt cd H locs 0 0 (MQ bb (hp_Qi D vwCl (hp_Tl cA) sz (cd_pic cA ad ca0 σ0) (fun r u => r = p.1 ∧ ∃ ca1, cd_inj ad ca1 ∧ u = cd_pic cA ad ca1 p.2)) [.ref (ad 2 0), .int a1, .long a2].toArray ss 0 0 (hp_A (cd_pic cA ad ca0 σ0) sz)) (F0 mm 71 ls []))) → (∀ r, q = Sum.inl r → r = p) → W pp l ee ({ frames := 1, cells := 0, slots := 0, locals := 21 }) ss mm [.ref (ad 2 0), .int a1, .long a2].toArray bb mt cd H locs 0 0 (MQ bb (hp_Qi D vwCl (hp_Tl cA) sz (cd_pic cA ad ca0 σ0) (fun r u => r = p.1 ∧ ∃ ca1, cd_inj ad ca1 ∧ u = cd_pic cA ad ca1 p.2)) [.ref (ad 2 0), .int a1, .long a2].toArray ss 0 0 (hp_A (cd_pic cA ad ca0 σ0) sz)) (F0 mm 25 ls []) := by
            intro j
            induction j with
            | zero => intro ca hj σ l2 l4 l5 l6 q H locs ls h; exact nomatch h
            | succ j ih =>
              intro ca hj σ l2 l4 l5 l6 q H locs ls h hw hl K KR
              unfold f_X2_fieldSlot_L25 at h
              refine lv_iload cx.1 cx.2.1 dX2_fieldSlot_25 (lv_at hl 4 rfl) ?_
              refine lv_aload_n cx.1 cx.2.1 dX2_fieldSlot_27 rfl (lv_at hl 0 rfl) ?_
              refine cd_gA (o := 2) (k := 6) (f := 70) hj cx hw hic2 rfl ⟨by decide, rfl, by decide, rfl⟩ rfl (by decide) (List.mem_cons_of_mem _ cm_170) dX2_fieldSlot_28 ?_
              refine lv_iload cx.1 cx.2.1 dX2_fieldSlot_31 (lv_at hl 2 rfl) ?_
              obtain ⟨v2, e_v2, h⟩ := md_ob h
              refine cd_lI (f := 70) hj cx hw (by decide) (by decide) rfl e_v2 dX2_fieldSlot_33 ?_
              refine lv_icmp_ge (tgt := 71) cx.1 cx.2.1 dX2_fieldSlot_34 (by decide) (fun c34 => ?_) (fun c34 => ?_)
              · have h := md_ip c34 h
                exact K _ (Option.some.inj h).symm _ hj _ _ _ hw (lv_sub hl [0, 1, 2, 3] rfl)
              · have h := md_in c34 h
                refine lv_aload_n cx.1 cx.2.1 dX2_fieldSlot_37 rfl (lv_at hl 0 rfl) ?_
                refine cd_gA (o := 2) (k := 5) (f := 69) hj cx hw hic2 rfl ⟨by decide, rfl, by decide, rfl⟩ rfl (by decide) (List.mem_cons_of_mem _ cm_380) dX2_fieldSlot_38 ?_
                refine lv_iload cx.1 cx.2.1 dX2_fieldSlot_41 (lv_at hl 2 rfl) ?_
                refine lv_iconst (v := 4) cx.1 cx.2.1 dX2_fieldSlot_43 (by decide) ?_
                refine lv_imul cx.1 cx.2.1 dX2_fieldSlot_44 ?_
                refine lv_iload cx.1 cx.2.1 dX2_fieldSlot_45 (lv_at hl 4 rfl) ?_
                refine lv_iadd cx.1 cx.2.1 dX2_fieldSlot_47 ?_
                obtain ⟨v3, e_v3, h⟩ := md_ob h
                refine cd_lJ (f := 69) hj cx hw (by decide) (by decide) rfl e_v3 dX2_fieldSlot_48 ?_
                refine lv_lload_n cx.1 cx.2.1 dX2_fieldSlot_49 rfl (lv_at hl 1 rfl) ?_
                refine W.lcmp cx.1 cx.2.1 dX2_fieldSlot_50 ?_
                refine lv_if_ne (tgt := 65) cx.1 cx.2.1 dX2_fieldSlot_51 (by decide) (fun c51 => ?_) (fun c51 => ?_)
                · have h := md_in c51 h
                  refine lv_iinc (v := (l6 + 1)) (lv' := [(6, .int (l6 + 1)), (0, .ref (ad 2 0)), (2, .long l2), (4, .int l4), (5, .int l5)]) cx.1 cx.2.1 dX2_fieldSlot_65 hl (k := 4) rfl rfl (by decide) rfl (fun ls hl => ?_)
                  refine lv_goto (tgt := 25) cx.1 cx.2.1 dX2_fieldSlot_68 (by decide) ?_
                  exact ih _ hj σ l2 l4 l5 ((l6 + 1)) q _ _ _ h hw (lv_sub hl [1, 2, 3, 4, 0] rfl) K KR
                · have h := md_ip c51 h
                  refine lv_aload_n cx.1 cx.2.1 dX2_fieldSlot_54 rfl (lv_at hl 0 rfl) ?_
                  refine cd_gA (o := 2) (k := 7) (f := 71) hj cx hw hic2 rfl ⟨by decide, rfl, by decide, rfl⟩ rfl (by decide) (List.mem_cons_of_mem _ cm_169) dX2_fieldSlot_55 ?_
                  refine lv_iload cx.1 cx.2.1 dX2_fieldSlot_58 (lv_at hl 2 rfl) ?_
                  obtain ⟨v4, e_v4, h⟩ := md_ob h
                  refine cd_lI (f := 71) hj cx hw (by decide) (by decide) rfl e_v4 dX2_fieldSlot_60 ?_
                  refine lv_iload cx.1 cx.2.1 dX2_fieldSlot_61 (lv_at hl 4 rfl) ?_
                  refine lv_iadd cx.1 cx.2.1 dX2_fieldSlot_63 ?_
                  exact hp_iret cx hw (cd_ret hj (congrArg some (KR _ (Option.some.inj h).symm))) dX2_fieldSlot_64
          obtain ⟨q5, e_q5, h⟩ := md_ob h
          refine L25 n _ hj p1.2 l2 l4 l5 0 q5 _ _ _ e_q5 hw (lv_sub hl [1, 2, 3, 4, 0] rfl) (fun t5 hq5 ca hj H locs ls hw hl => ?_) (fun r hr => by subst hr; exact KR _ (Option.some.inj h).symm)
          subst hq5
          have h := md_inr h
          refine lv_aload_n cx.1 cx.2.1 dX2_fieldSlot_71 rfl (lv_at hl 0 rfl) ?_
          refine cd_gA (o := 2) (k := 4) (f := 68) hj cx hw hic2 rfl ⟨by decide, rfl, by decide, rfl⟩ rfl (by decide) (List.mem_cons_of_mem _ cm_381) dX2_fieldSlot_72 ?_
          refine lv_iload cx.1 cx.2.1 dX2_fieldSlot_75 (lv_at hl 2 rfl) ?_
          obtain ⟨v6, e_v6, h⟩ := md_ob h
          refine cd_lI (f := 68) hj cx hw (by decide) (by decide) rfl e_v6 dX2_fieldSlot_77 ?_
          refine lv_istore (lv' := [(4, .int v6), (0, .ref (ad 2 0)), (2, .long l2), (5, .int l5)]) cx.1 cx.2.1 dX2_fieldSlot_78 hl (by decide) rfl (fun ls hl => ?_)
          refine lv_iinc (v := (l5 + 1)) (lv' := [(5, .int (l5 + 1)), (4, .int v6), (0, .ref (ad 2 0)), (2, .long l2)]) cx.1 cx.2.1 dX2_fieldSlot_80 hl (k := 3) rfl rfl (by decide) rfl (fun ls hl => ?_)
          refine lv_goto (tgt := 6) cx.1 cx.2.1 dX2_fieldSlot_83 (by decide) ?_
          exact ih _ hj t5.1 l2 v6 ((l5 + 1)) q _ _ _ h hw (lv_sub hl [2, 3, 1, 0] rfl) K KR
  obtain ⟨q7, e_q7, h⟩ := md_ob h
  refine L6 n _ hj σ0 a2 a1 0 q7 _ _ _ e_q7 hw (lv_sub hl [2, 4, 1, 0] rfl) (fun t7 hq7 ca hj H locs ls hw hl => ?_) (fun r hr => by subst hr; exact Option.some.inj h)
  subst hq7
  have h := md_inr h
  refine lv_iconst (v := (-1)) cx.1 cx.2.1 dX2_fieldSlot_86 (by decide) ?_
  exact hp_iret cx hw (cd_ret hj h) dX2_fieldSlot_87
set_option maxHeartbeats 4000000 in
set_option maxRecDepth 100000 in
theorem kc_X2_nameAt (l : Launch) (D : va_G) (cA : Nat → ClassId) (E : hp_N) (sz : Nat) (ad : Nat → Nat → Nat) (ca0 : Nat → Nat) (hj : cd_inj ad ca0) (oq sgq sgv : Nat) (hE : cd_E E oq sgq sgv) (n : Nat) (σ0 : cd_S) (a1 : Int32) (p : (Int64 × cd_S)) (h : f_X2_nameAt n σ0 a1 = some p) : Met l yX2_nameAt (Cond.code yX2_nameAt cX2_nameAt 2 (some .long) :: v_CLS) ({ frames := 0, cells := 0, slots := 0, locals := 0 }) (hp_Pc D vwCl (hp_Tl cA) E sz (cd_pic cA ad ca0 σ0) [.ref (ad 2 0), .int a1]) (hp_Ql D vwCl (hp_Tl cA) sz (cd_pic cA ad ca0 σ0) (fun r u => r = p.1 ∧ ∃ ca1, cd_inj ad ca1 ∧ u = cd_pic cA ad ca1 p.2)) 0 0 (hp_A (cd_pic cA ad ca0 σ0) sz) := by
  refine hp_ofW (cc := cX2_nameAt) (maxL := 2) (ret := (some .long)) (by decide) rfl (Nat.le_of_ble_eq_true rfl) ?_
  intro pp ee ss mm bb mt cd ls cx hsz hw hl
  have hl : lv_has ls 2 [(0, .ref (ad 2 0)), (1, .int a1)] := hl
  have J21 : ∀ (ca : Nat → Nat) (hj : cd_inj ad ca) (σ : cd_S) (H : Heap) (locs : List Loc) (ls : Array Slot), f_X2_nameAt_J21 n σ = some p → hp_w D vwCl (hp_Tl cA) E (hp_A (cd_pic cA ad ca0 σ0) sz) ss H locs (cd_pic cA ad ca σ) → lv_has ls 2 [] → W pp l ee ({ frames := 0, cells := 0, slots := 0, locals := 0 }) ss mm [.ref (ad 2 0), .int a1].toArray bb mt cd H locs 0 0 (MQ bb (hp_Ql D vwCl (hp_Tl cA) sz (cd_pic cA ad ca0 σ0) (fun r u => r = p.1 ∧ ∃ ca1, cd_inj ad ca1 ∧ u = cd_pic cA ad ca1 p.2)) [.ref (ad 2 0), .int a1].toArray ss 0 0 (hp_A (cd_pic cA ad ca0 σ0) sz)) (F0 mm 21 ls []) := by
    intro ca hj σ H locs ls h hw hl
    refine lv_lconst (v := 0) cx.1 cx.2.1 dX2_nameAt_21 (by decide) ?_
    exact hp_lret cx hw (cd_ret hj h) dX2_nameAt_22
  refine lv_iload_n cx.1 cx.2.1 dX2_nameAt_0 rfl (lv_at hl 1 rfl) ?_
  refine lv_if_lt (tgt := 21) cx.1 cx.2.1 dX2_nameAt_1 (by decide) (fun c1 => ?_) (fun c1 => ?_)
  · have h := md_ip c1 h
    exact J21 _ hj σ0 _ _ _ h hw (lv_sub hl [] rfl)
  · have h := md_in c1 h
    refine lv_iload_n cx.1 cx.2.1 dX2_nameAt_4 rfl (lv_at hl 1 rfl) ?_
    refine lv_aload_n cx.1 cx.2.1 dX2_nameAt_5 rfl (lv_at hl 0 rfl) ?_
    refine cd_gI (o := 2) (k := 14) (f := 78) hj cx hw hic2 rfl ⟨by decide, rfl, by decide, rfl⟩ rfl (by decide) (List.mem_cons_of_mem _ cm_382) dX2_nameAt_6 ?_
    refine lv_icmp_ge (tgt := 21) cx.1 cx.2.1 dX2_nameAt_9 (by decide) (fun c9 => ?_) (fun c9 => ?_)
    · have h := md_ip c9 h
      exact J21 _ hj σ0 _ _ _ h hw (lv_sub hl [] rfl)
    · have h := md_in c9 h
      refine lv_aload_n cx.1 cx.2.1 dX2_nameAt_12 rfl (lv_at hl 0 rfl) ?_
      refine cd_gA (o := 2) (k := 13) (f := 77) hj cx hw hic2 rfl ⟨by decide, rfl, by decide, rfl⟩ rfl (by decide) (List.mem_cons_of_mem _ cm_383) dX2_nameAt_13 ?_
      refine lv_iload_n cx.1 cx.2.1 dX2_nameAt_16 rfl (lv_at hl 1 rfl) ?_
      obtain ⟨v1, e_v1, h⟩ := md_ob h
      refine cd_lJ (f := 77) hj cx hw (by decide) (by decide) rfl e_v1 dX2_nameAt_17 ?_
      refine lv_goto (tgt := 22) cx.1 cx.2.1 dX2_nameAt_18 (by decide) ?_
      exact hp_lret cx hw (cd_ret hj h) dX2_nameAt_22
set_option maxHeartbeats 4000000 in
set_option maxRecDepth 100000 in
theorem kc_X1_readField (l : Launch) (D : va_G) (cA : Nat → ClassId) (E : hp_N) (sz : Nat) (ad : Nat → Nat → Nat) (ca0 : Nat → Nat) (hj : cd_inj ad ca0) (oq sgq sgv : Nat) (hE : cd_E E oq sgq sgv) (n : Nat) (σ0 : cd_S) (b0 : cd_B) (a1 : Nat) (a2 : Int32) (hb_a1 : a1 < 8) (p : (Int32 × cd_S × cd_B)) (h : f_X1_readField n σ0 b0 a1 a2 = some p) : (p.2.2.1 ≤ b0.1 ∧ p.2.2.2 ≤ b0.2) ∧ Met l yX1_readField (Cond.code yX1_readField cX1_readField 6 (some .int) :: v_CLS) ({ frames := 5, cells := b0.1 - p.2.2.1, slots := b0.2 - p.2.2.2, locals := 133 }) (hp_Pc D vwCl (hp_Tl cA) E sz (cd_pic cA ad ca0 σ0) [.ref (ad 1 0), .ref (ad 7 a1), .int a2]) (hp_Qi D vwCl (hp_Tl cA) sz (cd_pic cA ad ca0 σ0) (fun r u => r = p.1 ∧ ∃ ca1, cd_inj ad ca1 ∧ u = cd_pic cA ad ca1 p.2.1)) (b0.1 - p.2.2.1) (b0.2 - p.2.2.2) (hp_A (cd_pic cA ad ca0 σ0) sz) := by
  obtain ⟨hm0, hn0, h⟩ := cd_cks h
  have hM0 : p.2.2.1 ≤ b0.1 ∧ p.2.2.2 ≤ b0.2 := ⟨hm0, hn0⟩
  refine ⟨hM0, ?_⟩
  refine hp_ofW (cc := cX1_readField) (maxL := 6) (ret := (some .int)) (by decide) rfl (Nat.le_of_ble_eq_true rfl) ?_
  intro pp ee ss mm bb mt cd ls cx hsz hw hl
  have hl : lv_has ls 6 [(0, .ref (ad 1 0)), (1, .ref (ad 7 a1)), (2, .int a2)] := hl
  refine W.widen (k := b0.1 - b0.1) (n := b0.2 - b0.2) (Nat.zero_le _) (Nat.zero_le _) ?_
  refine lv_aload_n cx.1 cx.2.1 dX1_readField_0 rfl (lv_at hl 1 rfl) ?_
  refine cd_gO (o2 := 6) (e2 := (9 + 1 * a1)) (o := 7) (k := 6) (f := 230) hj cx hw hic7 rfl ⟨by decide, rfl, by decide, rfl⟩ rfl (show _ < 8 by omega) ⟨rfl, rfl⟩ (List.mem_cons_of_mem _ cm_89) dX1_readField_1 ?_
  obtain ⟨p1, e_p1, h⟩ := md_ob h
  refine hp_callVl (As := []) (rest := []) cx hw (kc_X6_pop l D cA E _ ad _ hj oq sgq sgv hE n σ0 ((9 + 1 * a1)) (show _ < 197 by omega) p1 e_p1) (cwV 0 cx.2.2.2.2.2.1 (cd_giV cm_345 cm_346 cm_347 cm_5 cm_348) rfl rfl rfl hdc_X6_pop ⟨Nat.le_of_ble_eq_true rfl, Nat.le_of_ble_eq_true rfl⟩) (cd_atO hj (by decide) (show _ < 197 by omega)) rfl rfl hl.1 rfl (Nat.le_of_ble_eq_true rfl) dX1_readField_4 ⟨by (try dsimp only); omega, by (try dsimp only); omega⟩ (fun r u H locs hp hw => ?_)
  obtain ⟨rfl, ca, hj, rfl⟩ := hp
  refine lv_lstore_n (lv' := [(3, .long p1.1), (0, .ref (ad 1 0)), (1, .ref (ad 7 a1)), (2, .int a2)]) cx.1 cx.2.1 dX1_readField_7 rfl hl (by decide) rfl (fun ls hl => ?_)
  refine lv_lload_n cx.1 cx.2.1 dX1_readField_8 rfl (lv_at hl 0 rfl) ?_
  obtain ⟨p2, e_p2, h⟩ := md_ob h
  refine hp_callSi (As := [.long p1.1]) (rest := []) cx hw (kc_X1_sortOf l D cA E _ ad _ hj oq sgq sgv hE n p1.2 (p1.1) p2 e_p2) (cwS 1 cx.2.2.2.2.2.1 (cd_giS cm_279 cm_244 cm_130 cm_245) rfl rfl rfl hdc_X1_sortOf ⟨Nat.le_of_ble_eq_true rfl, Nat.le_of_ble_eq_true rfl⟩) rfl hl.1 rfl (Nat.le_of_ble_eq_true rfl) dX1_readField_9 ⟨by (try dsimp only); omega, by (try dsimp only); omega⟩ (fun r u H locs hp hw => ?_)
  obtain ⟨rfl, ca, hj, rfl⟩ := hp
  refine lv_iconst (v := 2) cx.1 cx.2.1 dX1_readField_12 (by decide) ?_
  refine lv_icmp_eq (tgt := 22) cx.1 cx.2.1 dX1_readField_13 (by decide) (fun c13 => ?_) (fun c13 => ?_)
  · have h := md_ip c13 h
    refine lv_aload_n cx.1 cx.2.1 dX1_readField_22 rfl (lv_at hl 1 rfl) ?_
    refine cd_gO (o2 := 2) (e2 := 0) (o := 1) (k := 0) (f := 32) hj cx hw hic1 rfl ⟨by decide, rfl, by decide, rfl⟩ rfl (by decide) ⟨rfl, rfl⟩ (List.mem_cons_of_mem _ cm_179) dX1_readField_23 ?_
    refine lv_aload_n cx.1 cx.2.1 dX1_readField_26 rfl (lv_at hl 1 rfl) ?_
    refine lv_lload_n cx.1 cx.2.1 dX1_readField_27 rfl (lv_at hl 0 rfl) ?_
    obtain ⟨p3, e_p3, h⟩ := md_ob h
    refine hp_callVi (As := [.long p1.1]) (rest := [.ref (ad 2 0)]) cx hw (kc_X1_thingOf l D cA E _ ad _ hj oq sgq sgv hE n p2.2 (p1.1) p3 e_p3) (cwV 1 cx.2.2.2.2.2.1 (cd_giV cm_280 cm_281 cm_282 cm_130 cm_283) rfl rfl rfl hdc_X1_thingOf ⟨Nat.le_of_ble_eq_true rfl, Nat.le_of_ble_eq_true rfl⟩) (cd_atO hj (by decide) (by decide)) rfl rfl hl.1 rfl (Nat.le_of_ble_eq_true rfl) dX1_readField_28 ⟨by (try dsimp only); omega, by (try dsimp only); omega⟩ (fun r u H locs hp hw => ?_)
    obtain ⟨rfl, ca, hj, rfl⟩ := hp
    refine lv_aload_n cx.1 cx.2.1 dX1_readField_31 rfl (lv_at hl 1 rfl) ?_
    refine cd_gO (o2 := 2) (e2 := 0) (o := 1) (k := 0) (f := 32) hj cx hw hic1 rfl ⟨by decide, rfl, by decide, rfl⟩ rfl (by decide) ⟨rfl, rfl⟩ (List.mem_cons_of_mem _ cm_179) dX1_readField_32 ?_
    refine lv_iload_n cx.1 cx.2.1 dX1_readField_35 rfl (lv_at hl 3 rfl) ?_
    obtain ⟨p4, e_p4, h⟩ := md_ob h
    refine hp_callVl (As := [.int a2]) (rest := [.int p3.1, .ref (ad 2 0)]) cx hw (kc_X2_nameAt l D cA E _ ad _ hj oq sgq sgv hE n p3.2 a2 p4 e_p4) (cwV 1 cx.2.2.2.2.2.1 (cd_giV cm_384 cm_385 cm_386 cm_167 cm_387) rfl rfl rfl hdc_X2_nameAt ⟨Nat.le_of_ble_eq_true rfl, Nat.le_of_ble_eq_true rfl⟩) (cd_atO hj (by decide) (by decide)) rfl rfl hl.1 rfl (Nat.le_of_ble_eq_true rfl) dX1_readField_36 ⟨by (try dsimp only); omega, by (try dsimp only); omega⟩ (fun r u H locs hp hw => ?_)
    obtain ⟨rfl, ca, hj, rfl⟩ := hp
    obtain ⟨p5, e_p5, h⟩ := md_ob h
    refine hp_callVi (As := [.int p3.1, .long p4.1]) (rest := []) cx hw (kc_X2_fieldSlot l D cA E _ ad _ hj oq sgq sgv hE n p4.2 (p3.1) (p4.1) p5 e_p5) (cwV 2 cx.2.2.2.2.2.1 (cd_giV cm_388 cm_389 cm_390 cm_167 cm_391) rfl rfl rfl hdc_X2_fieldSlot ⟨Nat.le_of_ble_eq_true rfl, Nat.le_of_ble_eq_true rfl⟩) (cd_atO hj (by decide) (by decide)) rfl rfl hl.1 rfl (Nat.le_of_ble_eq_true rfl) dX1_readField_39 ⟨by (try dsimp only); omega, by (try dsimp only); omega⟩ (fun r u H locs hp hw => ?_)
    obtain ⟨rfl, ca, hj, rfl⟩ := hp
    refine lv_istore (lv' := [(5, .int p5.1), (3, .long p1.1), (0, .ref (ad 1 0)), (1, .ref (ad 7 a1)), (2, .int a2)]) cx.1 cx.2.1 dX1_readField_42 hl (by decide) rfl (fun ls hl => ?_)
    refine lv_iload cx.1 cx.2.1 dX1_readField_44 (lv_at hl 0 rfl) ?_
    refine lv_iconst (v := (-1)) cx.1 cx.2.1 dX1_readField_46 (by decide) ?_
    refine lv_icmp_ne (tgt := 56) cx.1 cx.2.1 dX1_readField_47 (by decide) (fun c47 => ?_) (fun c47 => ?_)
    · have h := md_in c47 h
      refine lv_aload_n cx.1 cx.2.1 dX1_readField_56 rfl (lv_at hl 3 rfl) ?_
      refine lv_aload_n cx.1 cx.2.1 dX1_readField_57 rfl (lv_at hl 2 rfl) ?_
      refine cd_gO (o2 := 6) (e2 := 7) (o := 1) (k := 6) (f := 38) hj cx hw hic1 rfl ⟨by decide, rfl, by decide, rfl⟩ rfl (by decide) ⟨rfl, rfl⟩ (List.mem_cons_of_mem _ cm_162) dX1_readField_58 ?_
      refine lv_aload_n cx.1 cx.2.1 dX1_readField_61 rfl (lv_at hl 2 rfl) ?_
      refine lv_lload_n cx.1 cx.2.1 dX1_readField_62 rfl (lv_at hl 1 rfl) ?_
      obtain ⟨p6, e_p6, h⟩ := md_ob h
      refine hp_callVi (As := [.long p1.1]) (rest := [.ref (ad 6 7), .ref (ad 7 a1)]) cx hw (kc_X1_slotsOf l D cA E _ ad _ hj oq sgq sgv hE n p5.2 (p1.1) p6 e_p6) (cwV 1 cx.2.2.2.2.2.1 (cd_giV cm_269 cm_270 cm_271 cm_130 cm_272) rfl rfl rfl hdc_X1_slotsOf ⟨Nat.le_of_ble_eq_true rfl, Nat.le_of_ble_eq_true rfl⟩) (cd_atO hj (by decide) (by decide)) rfl rfl hl.1 rfl (Nat.le_of_ble_eq_true rfl) dX1_readField_63 ⟨by (try dsimp only); omega, by (try dsimp only); omega⟩ (fun r u H locs hp hw => ?_)
      obtain ⟨rfl, ca, hj, rfl⟩ := hp
      refine lv_iload cx.1 cx.2.1 dX1_readField_66 (lv_at hl 0 rfl) ?_
      refine lv_iadd cx.1 cx.2.1 dX1_readField_68 ?_
      obtain ⟨p7, e_p7, h⟩ := md_ob h
      refine hp_callVl (As := [.int (p6.1 + p5.1)]) (rest := [.ref (ad 7 a1)]) cx hw (kc_X6_get l D cA E _ ad _ hj oq sgq sgv hE n p6.2 7 ((p6.1 + p5.1)) (by decide) p7 e_p7) (cwV 1 cx.2.2.2.2.2.1 (cd_giV cm_273 cm_240 cm_241 cm_5 cm_242) rfl rfl rfl hdc_X6_get ⟨Nat.le_of_ble_eq_true rfl, Nat.le_of_ble_eq_true rfl⟩) (cd_atO hj (by decide) (by decide)) rfl rfl hl.1 rfl (Nat.le_of_ble_eq_true rfl) dX1_readField_69 ⟨by (try dsimp only); omega, by (try dsimp only); omega⟩ (fun r u H locs hp hw => ?_)
      obtain ⟨rfl, ca, hj, rfl⟩ := hp
      obtain ⟨p8, e_p8, h⟩ := md_ob h
      obtain ⟨hm9, hn9, h⟩ := cd_cks h
      have hM9 : p.2.2.1 ≤ p8.2.2.1 ∧ p.2.2.2 ≤ p8.2.2.2 := ⟨hm9, hn9⟩
      have hle8 := (kc_X1_push l D cA E sz ad _ hj oq sgq sgv hE n p7.2 b0 a1 (p7.1) (show _ < 8 by omega) p8 e_p8).1
      refine hp_callSi (As := [.ref (ad 7 a1), .long p7.1]) (rest := []) cx hw ((kc_X1_push l D cA E _ ad _ hj oq sgq sgv hE n p7.2 b0 a1 (p7.1) (show _ < 8 by omega) p8 e_p8).2) (cwS 2 cx.2.2.2.2.2.1 (cd_giS cm_157 cm_158 cm_130 cm_159) rfl rfl rfl hdc_X1_push ⟨Nat.le_of_ble_eq_true rfl, Nat.le_of_ble_eq_true rfl⟩) rfl hl.1 rfl (Nat.le_of_ble_eq_true rfl) dX1_readField_72 ⟨by (try dsimp only); omega, by (try dsimp only); omega⟩ (fun r u H locs hp hw => ?_)
      obtain ⟨rfl, ca, hj, rfl⟩ := hp
      refine W.widen (k := b0.1 - p8.2.2.1) (n := b0.2 - p8.2.2.2) (by omega) (by omega) ?_
      exact hp_iret cx hw (cd_retb hj h) dX1_readField_75 (cd_le1 h) (cd_le2 h)
    · have h := md_ip c47 h
      refine lv_aload_n cx.1 cx.2.1 dX1_readField_50 rfl (lv_at hl 3 rfl) ?_
      refine lv_iconst (v := 2) cx.1 cx.2.1 dX1_readField_51 (by decide) ?_
      obtain ⟨p10, e_p10, h⟩ := md_ob h
      refine hp_callSi (As := [.ref (ad 7 a1), .int 2]) (rest := []) cx hw (kc_X1_fail l D cA E _ ad _ hj oq sgq sgv hE n p5.2 a1 (2 : Int32) (show _ < 8 by omega) p10 e_p10) (cwS 2 cx.2.2.2.2.2.1 (cd_giS cm_132 cm_133 cm_130 cm_134) rfl rfl rfl hdc_X1_fail ⟨Nat.le_of_ble_eq_true rfl, Nat.le_of_ble_eq_true rfl⟩) rfl hl.1 rfl (Nat.le_of_ble_eq_true rfl) dX1_readField_52 ⟨by (try dsimp only); omega, by (try dsimp only); omega⟩ (fun r u H locs hp hw => ?_)
      obtain ⟨rfl, ca, hj, rfl⟩ := hp
      exact hp_iret cx hw (cd_retb hj h) dX1_readField_55 (cd_le1 h) (cd_le2 h)
  · have h := md_in c13 h
    refine lv_aload_n cx.1 cx.2.1 dX1_readField_16 rfl (lv_at hl 2 rfl) ?_
    refine lv_iconst (v := 3) cx.1 cx.2.1 dX1_readField_17 (by decide) ?_
    obtain ⟨p11, e_p11, h⟩ := md_ob h
    refine hp_callSi (As := [.ref (ad 7 a1), .int 3]) (rest := []) cx hw (kc_X1_fail l D cA E _ ad _ hj oq sgq sgv hE n p2.2 a1 (3 : Int32) (show _ < 8 by omega) p11 e_p11) (cwS 2 cx.2.2.2.2.2.1 (cd_giS cm_132 cm_133 cm_130 cm_134) rfl rfl rfl hdc_X1_fail ⟨Nat.le_of_ble_eq_true rfl, Nat.le_of_ble_eq_true rfl⟩) rfl hl.1 rfl (Nat.le_of_ble_eq_true rfl) dX1_readField_18 ⟨by (try dsimp only); omega, by (try dsimp only); omega⟩ (fun r u H locs hp hw => ?_)
    obtain ⟨rfl, ca, hj, rfl⟩ := hp
    exact hp_iret cx hw (cd_retb hj h) dX1_readField_21 (cd_le1 h) (cd_le2 h)
set_option maxHeartbeats 4000000 in
set_option maxRecDepth 100000 in
theorem kc_X2_ownMethod (l : Launch) (D : va_G) (cA : Nat → ClassId) (E : hp_N) (sz : Nat) (ad : Nat → Nat → Nat) (ca0 : Nat → Nat) (hj : cd_inj ad ca0) (oq sgq sgv : Nat) (hE : cd_E E oq sgq sgv) (n : Nat) (σ0 : cd_S) (a1 : Int32) (a2 : Int64) (a4 : Int32) (p : (Int32 × cd_S)) (h : f_X2_ownMethod n σ0 a1 a2 a4 = some p) : Met l yX2_ownMethod (Cond.code yX2_ownMethod cX2_ownMethod 8 (some .int) :: v_CLS) ({ frames := 1, cells := 0, slots := 0, locals := 21 }) (hp_Pc D vwCl (hp_Tl cA) E sz (cd_pic cA ad ca0 σ0) [.ref (ad 2 0), .int a1, .long a2, .int a4]) (hp_Qi D vwCl (hp_Tl cA) sz (cd_pic cA ad ca0 σ0) (fun r u => r = p.1 ∧ ∃ ca1, cd_inj ad ca1 ∧ u = cd_pic cA ad ca1 p.2)) 0 0 (hp_A (cd_pic cA ad ca0 σ0) sz) := by
  refine hp_ofW (cc := cX2_ownMethod) (maxL := 8) (ret := (some .int)) (by decide) rfl (Nat.le_of_ble_eq_true rfl) ?_
  intro pp ee ss mm bb mt cd ls cx hsz hw hl
  have hl : lv_has ls 8 [(0, .ref (ad 2 0)), (1, .int a1), (2, .long a2), (4, .int a4)] := hl
  have J22 : ∀ (ca : Nat → Nat) (hj : cd_inj ad ca) (σ : cd_S) (l1 : Int32) (l2 : Int64) (l4 : Int32) (t0 : Int32) (H : Heap) (locs : List Loc) (ls : Array Slot), f_X2_ownMethod_J22 n σ l1 l2 l4 t0 = some p → hp_w D vwCl (hp_Tl cA) E (hp_A (cd_pic cA ad ca0 σ0) sz) ss H locs (cd_pic cA ad ca σ) → lv_has ls 8 [(0, .ref (ad 2 0)), (1, .int l1), (2, .long l2), (4, .int l4)] → W pp l ee ({ frames := 1, cells := 0, slots := 0, locals := 21 }) ss mm [.ref (ad 2 0), .int a1, .long a2, .int a4].toArray bb mt cd H locs 0 0 (MQ bb (hp_Qi D vwCl (hp_Tl cA) sz (cd_pic cA ad ca0 σ0) (fun r u => r = p.1 ∧ ∃ ca1, cd_inj ad ca1 ∧ u = cd_pic cA ad ca1 p.2)) [.ref (ad 2 0), .int a1, .long a2, .int a4].toArray ss 0 0 (hp_A (cd_pic cA ad ca0 σ0) sz)) (F0 mm 22 ls [.int t0]) := by
    intro ca hj σ l1 l2 l4 t0 H locs ls h hw hl
    refine lv_istore (lv' := [(5, .int t0), (0, .ref (ad 2 0)), (1, .int l1), (2, .long l2), (4, .int l4)]) cx.1 cx.2.1 dX2_ownMethod_22 hl (by decide) rfl (fun ls hl => ?_)
    refine lv_iconst (v := 0) cx.1 cx.2.1 dX2_ownMethod_24 (by decide) ?_
    refine lv_istore (lv' := [(6, .int 0), (5, .int t0), (0, .ref (ad 2 0)), (1, .int l1), (2, .long l2), (4, .int l4)]) cx.1 cx.2.1 dX2_ownMethod_25 hl (by decide) rfl (fun ls hl => ?_)
    have L27 : ∀ (j : Nat) (ca : Nat → Nat) (hj : cd_inj ad ca) (σ : cd_S) (l1 : Int32) (l2 : Int64) (l4 : Int32) (l5 : Int32) (l6 : Int32) (q : ((Int32 × cd_S) ⊕ (cd_S × Int32))) (H : Heap) (locs : List Loc) (ls : Array Slot), f_X2_ownMethod_L27 n l1 l2 l4 l5 j σ l6 = some q → hp_w D vwCl (hp_Tl cA) E (hp_A (cd_pic cA ad ca0 σ0) sz) ss H locs (cd_pic cA ad ca σ) → lv_has ls 8 [(0, .ref (ad 2 0)), (1, .int l1), (2, .long l2), (4, .int l4), (5, .int l5), (6, .int l6)] → (∀ t, q = Sum.inr t → (∀ (ca : Nat → Nat) (hj : cd_inj ad ca) (H : Heap) (locs : List Loc) (ls : Array Slot), hp_w D vwCl (hp_Tl cA) E (hp_A (cd_pic cA ad ca0 σ0) sz) ss H locs (cd_pic cA ad ca t.1) → lv_has ls 8 [] → W pp l ee ({ frames := 1, cells := 0, slots := 0, locals := 21 }) ss mm [.ref (ad 2 0), .int a1, .long a2, .int a4].toArray bb mt cd H locs 0 0 (MQ bb (hp_Qi D vwCl (hp_Tl cA) sz (cd_pic cA ad ca0 σ0) (fun r u => r = p.1 ∧ ∃ ca1, cd_inj ad ca1 ∧ u = cd_pic cA ad ca1 p.2)) [.ref (ad 2 0), .int a1, .long a2, .int a4].toArray ss 0 0 (hp_A (cd_pic cA ad ca0 σ0) sz)) (F0 mm 85 ls []))) → (∀ r, q = Sum.inl r → r = p) → W pp l ee ({ frames := 1, cells := 0, slots := 0, locals := 21 }) ss mm [.ref (ad 2 0), .int a1, .long a2, .int a4].toArray bb mt cd H locs 0 0 (MQ bb (hp_Qi D vwCl (hp_Tl cA) sz (cd_pic cA ad ca0 σ0) (fun r u => r = p.1 ∧ ∃ ca1, cd_inj ad ca1 ∧ u = cd_pic cA ad ca1 p.2)) [.ref (ad 2 0), .int a1, .long a2, .int a4].toArray ss 0 0 (hp_A (cd_pic cA ad ca0 σ0) sz)) (F0 mm 27 ls []) := by
      intro j
      induction j with
      | zero => intro ca hj σ l1 l2 l4 l5 l6 q H locs ls h; exact nomatch h
      | succ j ih =>
        intro ca hj σ l1 l2 l4 l5 l6 q H locs ls h hw hl K KR
        unfold f_X2_ownMethod_L27 at h
        have J79 : ∀ (ca : Nat → Nat) (hj : cd_inj ad ca) (σ : cd_S) (l6 : Int32) (H : Heap) (locs : List Loc) (ls : Array Slot), f_X2_ownMethod_J79 n l1 l2 l4 l5 (f_X2_ownMethod_L27 n l1 l2 l4 l5 j) σ l6 = some q → hp_w D vwCl (hp_Tl cA) E (hp_A (cd_pic cA ad ca0 σ0) sz) ss H locs (cd_pic cA ad ca σ) → lv_has ls 8 [(0, .ref (ad 2 0)), (1, .int l1), (2, .long l2), (4, .int l4), (5, .int l5), (6, .int l6)] → W pp l ee ({ frames := 1, cells := 0, slots := 0, locals := 21 }) ss mm [.ref (ad 2 0), .int a1, .long a2, .int a4].toArray bb mt cd H locs 0 0 (MQ bb (hp_Qi D vwCl (hp_Tl cA) sz (cd_pic cA ad ca0 σ0) (fun r u => r = p.1 ∧ ∃ ca1, cd_inj ad ca1 ∧ u = cd_pic cA ad ca1 p.2)) [.ref (ad 2 0), .int a1, .long a2, .int a4].toArray ss 0 0 (hp_A (cd_pic cA ad ca0 σ0) sz)) (F0 mm 79 ls []) := by
          intro ca hj σ l6 H locs ls h hw hl
          refine lv_iinc (v := (l6 + 1)) (lv' := [(6, .int (l6 + 1)), (0, .ref (ad 2 0)), (1, .int l1), (2, .long l2), (4, .int l4), (5, .int l5)]) cx.1 cx.2.1 dX2_ownMethod_79 hl (k := 5) rfl rfl (by decide) rfl (fun ls hl => ?_)
          refine lv_goto (tgt := 27) cx.1 cx.2.1 dX2_ownMethod_82 (by decide) ?_
          exact ih _ hj σ l1 l2 l4 l5 ((l6 + 1)) q _ _ _ h hw (lv_sub hl [1, 2, 3, 4, 5, 0] rfl) K KR
        refine lv_iload cx.1 cx.2.1 dX2_ownMethod_27 (lv_at hl 5 rfl) ?_
        refine lv_iload cx.1 cx.2.1 dX2_ownMethod_29 (lv_at hl 4 rfl) ?_
        refine lv_icmp_ge (tgt := 85) cx.1 cx.2.1 dX2_ownMethod_31 (by decide) (fun c31 => ?_) (fun c31 => ?_)
        · have h := md_ip c31 h
          exact K _ (Option.some.inj h).symm _ hj _ _ _ hw (lv_sub hl [] rfl)
        · have h := md_in c31 h
          refine lv_aload_n cx.1 cx.2.1 dX2_ownMethod_34 rfl (lv_at hl 0 rfl) ?_
          refine cd_gA (o := 2) (k := 8) (f := 72) hj cx hw hic2 rfl ⟨by decide, rfl, by decide, rfl⟩ rfl (by decide) (List.mem_cons_of_mem _ cm_393) dX2_ownMethod_35 ?_
          refine lv_iload_n cx.1 cx.2.1 dX2_ownMethod_38 rfl (lv_at hl 1 rfl) ?_
          refine lv_bipush (v := 12) cx.1 cx.2.1 dX2_ownMethod_39 (by decide) ?_
          refine lv_imul cx.1 cx.2.1 dX2_ownMethod_41 ?_
          refine lv_iload cx.1 cx.2.1 dX2_ownMethod_42 (lv_at hl 5 rfl) ?_
          refine lv_iadd cx.1 cx.2.1 dX2_ownMethod_44 ?_
          obtain ⟨v1, e_v1, h⟩ := md_ob h
          refine cd_lI (f := 72) hj cx hw (by decide) (by decide) rfl e_v1 dX2_ownMethod_45 ?_
          refine lv_istore (lv' := [(7, .int v1), (0, .ref (ad 2 0)), (1, .int l1), (2, .long l2), (4, .int l4), (5, .int l5), (6, .int l6)]) cx.1 cx.2.1 dX2_ownMethod_46 hl (by decide) rfl (fun ls hl => ?_)
          refine lv_aload_n cx.1 cx.2.1 dX2_ownMethod_48 rfl (lv_at hl 1 rfl) ?_
          refine lv_iload cx.1 cx.2.1 dX2_ownMethod_49 (lv_at hl 0 rfl) ?_
          obtain ⟨p2, e_p2, h⟩ := md_ob h
          refine hp_callVr (As := [.int v1]) (rest := []) cx hw (kc_X2_unitAt l D cA E _ ad _ hj oq sgq sgv hE n σ v1 p2 e_p2) (cwV 1 cx.2.2.2.2.2.1 (cd_giV cm_394 cm_285 cm_286 cm_167 cm_287) rfl rfl rfl hdc_X2_unitAt ⟨Nat.le_of_ble_eq_true rfl, Nat.le_of_ble_eq_true rfl⟩) (cd_atO hj (by decide) (by decide)) rfl rfl hl.1 rfl (Nat.le_of_ble_eq_true rfl) dX2_ownMethod_51 ⟨Nat.le_refl _, Nat.le_refl _⟩ (fun r u H locs hp hw => ?_)
          obtain ⟨⟨hb_p2, rfl⟩, ca, hj, rfl⟩ := hp
          refine cd_gJ (o := 9) (k := 5) (f := 293) hj cx hw hic9 rfl ⟨by decide, rfl, by decide, rfl⟩ rfl (show _ < 60 by omega) (List.mem_cons_of_mem _ cm_395) dX2_ownMethod_54 ?_
          refine lv_lload_n cx.1 cx.2.1 dX2_ownMethod_57 rfl (lv_at hl 3 rfl) ?_
          refine W.lcmp cx.1 cx.2.1 dX2_ownMethod_58 ?_
          refine lv_if_ne (tgt := 79) cx.1 cx.2.1 dX2_ownMethod_59 (by decide) (fun c59 => ?_) (fun c59 => ?_)
          · have h := md_in c59 h
            exact J79 _ hj p2.2 l6 _ _ _ h hw (lv_sub hl [1, 2, 3, 4, 5, 6] rfl)
          · have h := md_ip c59 h
            refine lv_aload_n cx.1 cx.2.1 dX2_ownMethod_62 rfl (lv_at hl 1 rfl) ?_
            refine lv_iload cx.1 cx.2.1 dX2_ownMethod_63 (lv_at hl 0 rfl) ?_
            obtain ⟨p3, e_p3, h⟩ := md_ob h
            refine hp_callVr (As := [.int v1]) (rest := []) cx hw (kc_X2_unitAt l D cA E _ ad _ hj oq sgq sgv hE n p2.2 v1 p3 e_p3) (cwV 1 cx.2.2.2.2.2.1 (cd_giV cm_394 cm_285 cm_286 cm_167 cm_287) rfl rfl rfl hdc_X2_unitAt ⟨Nat.le_of_ble_eq_true rfl, Nat.le_of_ble_eq_true rfl⟩) (cd_atO hj (by decide) (by decide)) rfl rfl hl.1 rfl (Nat.le_of_ble_eq_true rfl) dX2_ownMethod_65 ⟨Nat.le_refl _, Nat.le_refl _⟩ (fun r u H locs hp hw => ?_)
            obtain ⟨⟨hb_p3, rfl⟩, ca, hj, rfl⟩ := hp
            refine cd_gI (o := 9) (k := 6) (f := 294) hj cx hw hic9 rfl ⟨by decide, rfl, by decide, rfl⟩ rfl (show _ < 60 by omega) (List.mem_cons_of_mem _ cm_396) dX2_ownMethod_68 ?_
            refine lv_iload cx.1 cx.2.1 dX2_ownMethod_71 (lv_at hl 4 rfl) ?_
            refine lv_icmp_ne (tgt := 79) cx.1 cx.2.1 dX2_ownMethod_73 (by decide) (fun c73 => ?_) (fun c73 => ?_)
            · have h := md_in c73 h
              exact J79 _ hj p3.2 l6 _ _ _ h hw (lv_sub hl [1, 2, 3, 4, 5, 6] rfl)
            · have h := md_ip c73 h
              refine lv_iload cx.1 cx.2.1 dX2_ownMethod_76 (lv_at hl 0 rfl) ?_
              exact hp_iret cx hw (cd_ret hj (congrArg some (KR _ (Option.some.inj h).symm))) dX2_ownMethod_78
    obtain ⟨q4, e_q4, h⟩ := md_ob h
    refine L27 n _ hj σ l1 l2 l4 t0 0 q4 _ _ _ e_q4 hw (lv_sub hl [2, 3, 4, 5, 1, 0] rfl) (fun t4 hq4 ca hj H locs ls hw hl => ?_) (fun r hr => by subst hr; exact Option.some.inj h)
    subst hq4
    have h := md_inr h
    refine lv_iconst (v := (-1)) cx.1 cx.2.1 dX2_ownMethod_85 (by decide) ?_
    exact hp_iret cx hw (cd_ret hj h) dX2_ownMethod_86
  have J21 : ∀ (ca : Nat → Nat) (hj : cd_inj ad ca) (σ : cd_S) (l1 : Int32) (l2 : Int64) (l4 : Int32) (H : Heap) (locs : List Loc) (ls : Array Slot), f_X2_ownMethod_J21 n σ l1 l2 l4 = some p → hp_w D vwCl (hp_Tl cA) E (hp_A (cd_pic cA ad ca0 σ0) sz) ss H locs (cd_pic cA ad ca σ) → lv_has ls 8 [(0, .ref (ad 2 0)), (1, .int l1), (2, .long l2), (4, .int l4)] → W pp l ee ({ frames := 1, cells := 0, slots := 0, locals := 21 }) ss mm [.ref (ad 2 0), .int a1, .long a2, .int a4].toArray bb mt cd H locs 0 0 (MQ bb (hp_Qi D vwCl (hp_Tl cA) sz (cd_pic cA ad ca0 σ0) (fun r u => r = p.1 ∧ ∃ ca1, cd_inj ad ca1 ∧ u = cd_pic cA ad ca1 p.2)) [.ref (ad 2 0), .int a1, .long a2, .int a4].toArray ss 0 0 (hp_A (cd_pic cA ad ca0 σ0) sz)) (F0 mm 21 ls []) := by
    intro ca hj σ l1 l2 l4 H locs ls h hw hl
    refine lv_iconst (v := 0) cx.1 cx.2.1 dX2_ownMethod_21 (by decide) ?_
    exact J22 _ hj σ l1 l2 l4 0 _ _ _ h hw (lv_sub hl [0, 1, 2, 3] rfl)
  refine lv_iload_n cx.1 cx.2.1 dX2_ownMethod_0 rfl (lv_at hl 1 rfl) ?_
  refine lv_if_lt (tgt := 21) cx.1 cx.2.1 dX2_ownMethod_1 (by decide) (fun c1 => ?_) (fun c1 => ?_)
  · have h := md_ip c1 h
    exact J21 _ hj σ0 a1 a2 a4 _ _ _ h hw (lv_sub hl [0, 1, 2, 3] rfl)
  · have h := md_in c1 h
    refine lv_iload_n cx.1 cx.2.1 dX2_ownMethod_4 rfl (lv_at hl 1 rfl) ?_
    refine lv_aload_n cx.1 cx.2.1 dX2_ownMethod_5 rfl (lv_at hl 0 rfl) ?_
    refine cd_gI (o := 2) (k := 10) (f := 74) hj cx hw hic2 rfl ⟨by decide, rfl, by decide, rfl⟩ rfl (by decide) (List.mem_cons_of_mem _ cm_163) dX2_ownMethod_6 ?_
    refine lv_icmp_ge (tgt := 21) cx.1 cx.2.1 dX2_ownMethod_9 (by decide) (fun c9 => ?_) (fun c9 => ?_)
    · have h := md_ip c9 h
      exact J21 _ hj σ0 a1 a2 a4 _ _ _ h hw (lv_sub hl [0, 1, 2, 3] rfl)
    · have h := md_in c9 h
      refine lv_aload_n cx.1 cx.2.1 dX2_ownMethod_12 rfl (lv_at hl 0 rfl) ?_
      refine cd_gA (o := 2) (k := 9) (f := 73) hj cx hw hic2 rfl ⟨by decide, rfl, by decide, rfl⟩ rfl (by decide) (List.mem_cons_of_mem _ cm_392) dX2_ownMethod_13 ?_
      refine lv_iload_n cx.1 cx.2.1 dX2_ownMethod_16 rfl (lv_at hl 1 rfl) ?_
      obtain ⟨v5, e_v5, h⟩ := md_ob h
      refine cd_lI (f := 73) hj cx hw (by decide) (by decide) rfl e_v5 dX2_ownMethod_17 ?_
      refine lv_goto (tgt := 22) cx.1 cx.2.1 dX2_ownMethod_18 (by decide) ?_
      exact J22 _ hj σ0 a1 a2 a4 v5 _ _ _ h hw (lv_sub hl [0, 1, 2, 3] rfl)
set_option maxHeartbeats 4000000 in
set_option maxRecDepth 100000 in
theorem kc_X2_findMethod (l : Launch) (D : va_G) (cA : Nat → ClassId) (E : hp_N) (sz : Nat) (ad : Nat → Nat → Nat) (ca0 : Nat → Nat) (hj : cd_inj ad ca0) (oq sgq sgv : Nat) (hE : cd_E E oq sgq sgv) (n : Nat) (σ0 : cd_S) (a1 : Int32) (a2 : Int64) (a4 : Int32) (p : (Int32 × cd_S)) (h : f_X2_findMethod n σ0 a1 a2 a4 = some p) : Met l yX2_findMethod (Cond.code yX2_findMethod cX2_findMethod 8 (some .int) :: v_CLS) ({ frames := 2, cells := 0, slots := 0, locals := 48 }) (hp_Pc D vwCl (hp_Tl cA) E sz (cd_pic cA ad ca0 σ0) [.ref (ad 2 0), .int a1, .long a2, .int a4]) (hp_Qi D vwCl (hp_Tl cA) sz (cd_pic cA ad ca0 σ0) (fun r u => r = p.1 ∧ ∃ ca1, cd_inj ad ca1 ∧ u = cd_pic cA ad ca1 p.2)) 0 0 (hp_A (cd_pic cA ad ca0 σ0) sz) := by
  refine hp_ofW (cc := cX2_findMethod) (maxL := 8) (ret := (some .int)) (by decide) rfl (Nat.le_of_ble_eq_true rfl) ?_
  intro pp ee ss mm bb mt cd ls cx hsz hw hl
  have hl : lv_has ls 8 [(0, .ref (ad 2 0)), (1, .int a1), (2, .long a2), (4, .int a4)] := hl
  refine lv_iload_n cx.1 cx.2.1 dX2_findMethod_0 rfl (lv_at hl 1 rfl) ?_
  refine lv_istore (lv' := [(5, .int a1), (0, .ref (ad 2 0)), (1, .int a1), (2, .long a2), (4, .int a4)]) cx.1 cx.2.1 dX2_findMethod_1 hl (by decide) rfl (fun ls hl => ?_)
  refine lv_iconst (v := (-1)) cx.1 cx.2.1 dX2_findMethod_3 (by decide) ?_
  refine lv_istore (lv' := [(6, .int (-1)), (5, .int a1), (0, .ref (ad 2 0)), (1, .int a1), (2, .long a2), (4, .int a4)]) cx.1 cx.2.1 dX2_findMethod_4 hl (by decide) rfl (fun ls hl => ?_)
  refine lv_iconst (v := 0) cx.1 cx.2.1 dX2_findMethod_6 (by decide) ?_
  refine lv_istore (lv' := [(7, .int 0), (6, .int (-1)), (5, .int a1), (0, .ref (ad 2 0)), (1, .int a1), (2, .long a2), (4, .int a4)]) cx.1 cx.2.1 dX2_findMethod_7 hl (by decide) rfl (fun ls hl => ?_)
  have L9 : ∀ (j : Nat) (ca : Nat → Nat) (hj : cd_inj ad ca) (σ : cd_S) (l2 : Int64) (l4 : Int32) (l5 : Int32) (l6 : Int32) (l7 : Int32) (q : (cd_S × Int32 × Int32 × Int32)) (H : Heap) (locs : List Loc) (ls : Array Slot), f_X2_findMethod_L9 n l2 l4 j σ l5 l6 l7 = some q → hp_w D vwCl (hp_Tl cA) E (hp_A (cd_pic cA ad ca0 σ0) sz) ss H locs (cd_pic cA ad ca σ) → lv_has ls 8 [(0, .ref (ad 2 0)), (2, .long l2), (4, .int l4), (5, .int l5), (6, .int l6), (7, .int l7)] → (∀ (ca : Nat → Nat) (hj : cd_inj ad ca) (H : Heap) (locs : List Loc) (ls : Array Slot), hp_w D vwCl (hp_Tl cA) E (hp_A (cd_pic cA ad ca0 σ0) sz) ss H locs (cd_pic cA ad ca q.1) → lv_has ls 8 [(6, .int q.2.2.1)] → W pp l ee ({ frames := 2, cells := 0, slots := 0, locals := 48 }) ss mm [.ref (ad 2 0), .int a1, .long a2, .int a4].toArray bb mt cd H locs 0 0 (MQ bb (hp_Qi D vwCl (hp_Tl cA) sz (cd_pic cA ad ca0 σ0) (fun r u => r = p.1 ∧ ∃ ca1, cd_inj ad ca1 ∧ u = cd_pic cA ad ca1 p.2)) [.ref (ad 2 0), .int a1, .long a2, .int a4].toArray ss 0 0 (hp_A (cd_pic cA ad ca0 σ0) sz)) (F0 mm 57 ls [])) → W pp l ee ({ frames := 2, cells := 0, slots := 0, locals := 48 }) ss mm [.ref (ad 2 0), .int a1, .long a2, .int a4].toArray bb mt cd H locs 0 0 (MQ bb (hp_Qi D vwCl (hp_Tl cA) sz (cd_pic cA ad ca0 σ0) (fun r u => r = p.1 ∧ ∃ ca1, cd_inj ad ca1 ∧ u = cd_pic cA ad ca1 p.2)) [.ref (ad 2 0), .int a1, .long a2, .int a4].toArray ss 0 0 (hp_A (cd_pic cA ad ca0 σ0) sz)) (F0 mm 9 ls []) := by
    intro j
    induction j with
    | zero => intro ca hj σ l2 l4 l5 l6 l7 q H locs ls h; exact nomatch h
    | succ j ih =>
      intro ca hj σ l2 l4 l5 l6 l7 q H locs ls h hw hl K
      unfold f_X2_findMethod_L9 at h
      refine lv_iload cx.1 cx.2.1 dX2_findMethod_9 (lv_at hl 5 rfl) ?_
      refine lv_bipush (v := 8) cx.1 cx.2.1 dX2_findMethod_11 (by decide) ?_
      refine lv_icmp_ge (tgt := 57) cx.1 cx.2.1 dX2_findMethod_13 (by decide) (fun c13 => ?_) (fun c13 => ?_)
      · have h := md_ip c13 h
        obtain rfl := Option.some.inj h
        exact K _ hj _ _ _ hw (lv_sub hl [4] rfl)
      · have h := md_in c13 h
        refine lv_aload_n cx.1 cx.2.1 dX2_findMethod_16 rfl (lv_at hl 0 rfl) ?_
        refine lv_iload cx.1 cx.2.1 dX2_findMethod_17 (lv_at hl 3 rfl) ?_
        obtain ⟨p1, e_p1, h⟩ := md_ob h
        refine hp_callVi (As := [.int l5]) (rest := []) cx hw (kc_X2_isModule l D cA E _ ad _ hj oq sgq sgv hE n σ l5 p1 e_p1) (cwV 1 cx.2.2.2.2.2.1 (cd_giV cm_164 cm_165 cm_166 cm_167 cm_168) rfl rfl rfl hdc_X2_isModule ⟨Nat.le_of_ble_eq_true rfl, Nat.le_of_ble_eq_true rfl⟩) (cd_atO hj (by decide) (by decide)) rfl rfl hl.1 rfl (Nat.le_of_ble_eq_true rfl) dX2_findMethod_19 ⟨Nat.le_refl _, Nat.le_refl _⟩ (fun r u H locs hp hw => ?_)
        obtain ⟨rfl, ca, hj, rfl⟩ := hp
        refine lv_if_eq (tgt := 57) cx.1 cx.2.1 dX2_findMethod_22 (by decide) (fun c22 => ?_) (fun c22 => ?_)
        · have h := md_ip c22 h
          obtain rfl := Option.some.inj h
          exact K _ hj _ _ _ hw (lv_sub hl [4] rfl)
        · have h := md_in c22 h
          refine lv_iload cx.1 cx.2.1 dX2_findMethod_25 (lv_at hl 4 rfl) ?_
          refine lv_iconst (v := (-1)) cx.1 cx.2.1 dX2_findMethod_27 (by decide) ?_
          refine lv_icmp_ne (tgt := 57) cx.1 cx.2.1 dX2_findMethod_28 (by decide) (fun c28 => ?_) (fun c28 => ?_)
          · have h := md_in c28 h
            obtain rfl := Option.some.inj h
            exact K _ hj _ _ _ hw (lv_sub hl [4] rfl)
          · have h := md_ip c28 h
            refine lv_aload_n cx.1 cx.2.1 dX2_findMethod_31 rfl (lv_at hl 0 rfl) ?_
            refine lv_iload cx.1 cx.2.1 dX2_findMethod_32 (lv_at hl 3 rfl) ?_
            refine lv_lload_n cx.1 cx.2.1 dX2_findMethod_34 rfl (lv_at hl 1 rfl) ?_
            refine lv_iload cx.1 cx.2.1 dX2_findMethod_35 (lv_at hl 2 rfl) ?_
            obtain ⟨p2, e_p2, h⟩ := md_ob h
            refine hp_callVi (As := [.int l5, .long l2, .int l4]) (rest := []) cx hw (kc_X2_ownMethod l D cA E _ ad _ hj oq sgq sgv hE n p1.2 l5 l2 l4 p2 e_p2) (cwV 3 cx.2.2.2.2.2.1 (cd_giV cm_397 cm_398 cm_399 cm_167 cm_400) rfl rfl rfl hdc_X2_ownMethod ⟨Nat.le_of_ble_eq_true rfl, Nat.le_of_ble_eq_true rfl⟩) (cd_atO hj (by decide) (by decide)) rfl rfl hl.1 rfl (Nat.le_of_ble_eq_true rfl) dX2_findMethod_37 ⟨Nat.le_refl _, Nat.le_refl _⟩ (fun r u H locs hp hw => ?_)
            obtain ⟨rfl, ca, hj, rfl⟩ := hp
            refine lv_istore (lv' := [(6, .int p2.1), (0, .ref (ad 2 0)), (2, .long l2), (4, .int l4), (5, .int l5), (7, .int l7)]) cx.1 cx.2.1 dX2_findMethod_40 hl (by decide) rfl (fun ls hl => ?_)
            refine lv_aload_n cx.1 cx.2.1 dX2_findMethod_42 rfl (lv_at hl 1 rfl) ?_
            refine cd_gA (o := 2) (k := 4) (f := 68) hj cx hw hic2 rfl ⟨by decide, rfl, by decide, rfl⟩ rfl (by decide) (List.mem_cons_of_mem _ cm_381) dX2_findMethod_43 ?_
            refine lv_iload cx.1 cx.2.1 dX2_findMethod_46 (lv_at hl 4 rfl) ?_
            obtain ⟨v3, e_v3, h⟩ := md_ob h
            refine cd_lI (f := 68) hj cx hw (by decide) (by decide) rfl e_v3 dX2_findMethod_48 ?_
            refine lv_istore (lv' := [(5, .int v3), (6, .int p2.1), (0, .ref (ad 2 0)), (2, .long l2), (4, .int l4), (7, .int l7)]) cx.1 cx.2.1 dX2_findMethod_49 hl (by decide) rfl (fun ls hl => ?_)
            refine lv_iinc (v := (l7 + 1)) (lv' := [(7, .int (l7 + 1)), (5, .int v3), (6, .int p2.1), (0, .ref (ad 2 0)), (2, .long l2), (4, .int l4)]) cx.1 cx.2.1 dX2_findMethod_51 hl (k := 5) rfl rfl (by decide) rfl (fun ls hl => ?_)
            refine lv_goto (tgt := 9) cx.1 cx.2.1 dX2_findMethod_54 (by decide) ?_
            exact ih _ hj p2.2 l2 l4 v3 (p2.1) ((l7 + 1)) q _ _ _ h hw (lv_sub hl [3, 4, 5, 1, 2, 0] rfl) K
  obtain ⟨q4, e_q4, h⟩ := md_ob h
  refine L9 n _ hj σ0 a2 a4 a1 ((-1)) 0 q4 _ _ _ e_q4 hw (lv_sub hl [3, 5, 6, 2, 1, 0] rfl) (fun ca hj H locs ls hw hl => ?_)
  refine lv_iload cx.1 cx.2.1 dX2_findMethod_57 (lv_at hl 0 rfl) ?_
  exact hp_iret cx hw (cd_ret hj h) dX2_findMethod_59
set_option maxHeartbeats 4000000 in
set_option maxRecDepth 100000 in
theorem kc_X1_send (l : Launch) (D : va_G) (cA : Nat → ClassId) (E : hp_N) (sz : Nat) (ad : Nat → Nat → Nat) (ca0 : Nat → Nat) (hj : cd_inj ad ca0) (oq sgq sgv : Nat) (hE : cd_E E oq sgq sgv) (n : Nat) (σ0 : cd_S) (a1 : Nat) (a2 : Int32) (a3 : Int32) (hb_a1 : a1 < 8) (p : (Int32 × cd_S)) (h : f_X1_send n σ0 a1 a2 a3 = some p) : Met l yX1_send (Cond.code yX1_send cX1_send 8 (some .int) :: v_CLS) ({ frames := 3, cells := 0, slots := 0, locals := 75 }) (hp_Pc D vwCl (hp_Tl cA) E sz (cd_pic cA ad ca0 σ0) [.ref (ad 1 0), .ref (ad 7 a1), .int a2, .int a3]) (hp_Qi D vwCl (hp_Tl cA) sz (cd_pic cA ad ca0 σ0) (fun r u => r = p.1 ∧ ∃ ca1, cd_inj ad ca1 ∧ u = cd_pic cA ad ca1 p.2)) 0 0 (hp_A (cd_pic cA ad ca0 σ0) sz) := by
  refine hp_ofW (cc := cX1_send) (maxL := 8) (ret := (some .int)) (by decide) rfl (Nat.le_of_ble_eq_true rfl) ?_
  intro pp ee ss mm bb mt cd ls cx hsz hw hl
  have hl : lv_has ls 8 [(0, .ref (ad 1 0)), (1, .ref (ad 7 a1)), (2, .int a2), (3, .int a3)] := hl
  refine lv_aload_n cx.1 cx.2.1 dX1_send_0 rfl (lv_at hl 1 rfl) ?_
  refine lv_iload_n cx.1 cx.2.1 dX1_send_1 rfl (lv_at hl 3 rfl) ?_
  obtain ⟨p1, e_p1, h⟩ := md_ob h
  refine hp_callVl (As := [.int a3]) (rest := []) cx hw (kc_X7_peek l D cA E _ ad _ hj oq sgq sgv hE n σ0 a1 a3 (show _ < 8 by omega) p1 e_p1) (cwV 1 cx.2.2.2.2.2.1 (cd_giV cm_275 cm_276 cm_277 cm_94 cm_278) rfl rfl rfl hdc_X7_peek ⟨Nat.le_of_ble_eq_true rfl, Nat.le_of_ble_eq_true rfl⟩) (cd_atO hj (by decide) (show _ < 8 by omega)) rfl rfl hl.1 rfl (Nat.le_of_ble_eq_true rfl) dX1_send_2 ⟨Nat.le_refl _, Nat.le_refl _⟩ (fun r u H locs hp hw => ?_)
  obtain ⟨rfl, ca, hj, rfl⟩ := hp
  refine lv_lstore (lv' := [(4, .long p1.1), (0, .ref (ad 1 0)), (1, .ref (ad 7 a1)), (2, .int a2), (3, .int a3)]) cx.1 cx.2.1 dX1_send_5 hl (by decide) rfl (fun ls hl => ?_)
  refine lv_lload cx.1 cx.2.1 dX1_send_7 (lv_at hl 0 rfl) ?_
  obtain ⟨p2, e_p2, h⟩ := md_ob h
  refine hp_callSi (As := [.long p1.1]) (rest := []) cx hw (kc_X1_sortOf l D cA E _ ad _ hj oq sgq sgv hE n p1.2 (p1.1) p2 e_p2) (cwS 1 cx.2.2.2.2.2.1 (cd_giS cm_279 cm_244 cm_130 cm_245) rfl rfl rfl hdc_X1_sortOf ⟨Nat.le_of_ble_eq_true rfl, Nat.le_of_ble_eq_true rfl⟩) rfl hl.1 rfl (Nat.le_of_ble_eq_true rfl) dX1_send_9 ⟨Nat.le_refl _, Nat.le_refl _⟩ (fun r u H locs hp hw => ?_)
  obtain ⟨rfl, ca, hj, rfl⟩ := hp
  refine lv_iconst (v := 2) cx.1 cx.2.1 dX1_send_12 (by decide) ?_
  refine lv_icmp_eq (tgt := 22) cx.1 cx.2.1 dX1_send_13 (by decide) (fun c13 => ?_) (fun c13 => ?_)
  · have h := md_ip c13 h
    refine lv_aload_n cx.1 cx.2.1 dX1_send_22 rfl (lv_at hl 1 rfl) ?_
    refine cd_gO (o2 := 2) (e2 := 0) (o := 1) (k := 0) (f := 32) hj cx hw hic1 rfl ⟨by decide, rfl, by decide, rfl⟩ rfl (by decide) ⟨rfl, rfl⟩ (List.mem_cons_of_mem _ cm_179) dX1_send_23 ?_
    refine lv_aload_n cx.1 cx.2.1 dX1_send_26 rfl (lv_at hl 1 rfl) ?_
    refine lv_lload cx.1 cx.2.1 dX1_send_27 (lv_at hl 0 rfl) ?_
    obtain ⟨p3, e_p3, h⟩ := md_ob h
    refine hp_callVi (As := [.long p1.1]) (rest := [.ref (ad 2 0)]) cx hw (kc_X1_thingOf l D cA E _ ad _ hj oq sgq sgv hE n p2.2 (p1.1) p3 e_p3) (cwV 1 cx.2.2.2.2.2.1 (cd_giV cm_280 cm_281 cm_282 cm_130 cm_283) rfl rfl rfl hdc_X1_thingOf ⟨Nat.le_of_ble_eq_true rfl, Nat.le_of_ble_eq_true rfl⟩) (cd_atO hj (by decide) (by decide)) rfl rfl hl.1 rfl (Nat.le_of_ble_eq_true rfl) dX1_send_29 ⟨Nat.le_refl _, Nat.le_refl _⟩ (fun r u H locs hp hw => ?_)
    obtain ⟨rfl, ca, hj, rfl⟩ := hp
    refine lv_aload_n cx.1 cx.2.1 dX1_send_32 rfl (lv_at hl 1 rfl) ?_
    refine cd_gO (o2 := 2) (e2 := 0) (o := 1) (k := 0) (f := 32) hj cx hw hic1 rfl ⟨by decide, rfl, by decide, rfl⟩ rfl (by decide) ⟨rfl, rfl⟩ (List.mem_cons_of_mem _ cm_179) dX1_send_33 ?_
    refine lv_iload_n cx.1 cx.2.1 dX1_send_36 rfl (lv_at hl 3 rfl) ?_
    obtain ⟨p4, e_p4, h⟩ := md_ob h
    refine hp_callVl (As := [.int a2]) (rest := [.int p3.1, .ref (ad 2 0)]) cx hw (kc_X2_nameAt l D cA E _ ad _ hj oq sgq sgv hE n p3.2 a2 p4 e_p4) (cwV 1 cx.2.2.2.2.2.1 (cd_giV cm_384 cm_385 cm_386 cm_167 cm_387) rfl rfl rfl hdc_X2_nameAt ⟨Nat.le_of_ble_eq_true rfl, Nat.le_of_ble_eq_true rfl⟩) (cd_atO hj (by decide) (by decide)) rfl rfl hl.1 rfl (Nat.le_of_ble_eq_true rfl) dX1_send_37 ⟨Nat.le_refl _, Nat.le_refl _⟩ (fun r u H locs hp hw => ?_)
    obtain ⟨rfl, ca, hj, rfl⟩ := hp
    refine lv_iload_n cx.1 cx.2.1 dX1_send_40 rfl (lv_at hl 4 rfl) ?_
    obtain ⟨p5, e_p5, h⟩ := md_ob h
    refine hp_callVi (As := [.int p3.1, .long p4.1, .int a3]) (rest := []) cx hw (kc_X2_findMethod l D cA E _ ad _ hj oq sgq sgv hE n p4.2 (p3.1) (p4.1) a3 p5 e_p5) (cwV 3 cx.2.2.2.2.2.1 (cd_giV cm_401 cm_402 cm_403 cm_167 cm_404) rfl rfl rfl hdc_X2_findMethod ⟨Nat.le_of_ble_eq_true rfl, Nat.le_of_ble_eq_true rfl⟩) (cd_atO hj (by decide) (by decide)) rfl rfl hl.1 rfl (Nat.le_of_ble_eq_true rfl) dX1_send_41 ⟨Nat.le_refl _, Nat.le_refl _⟩ (fun r u H locs hp hw => ?_)
    obtain ⟨rfl, ca, hj, rfl⟩ := hp
    refine lv_istore (lv' := [(6, .int p5.1), (4, .long p1.1), (0, .ref (ad 1 0)), (1, .ref (ad 7 a1)), (2, .int a2), (3, .int a3)]) cx.1 cx.2.1 dX1_send_44 hl (by decide) rfl (fun ls hl => ?_)
    refine lv_iload cx.1 cx.2.1 dX1_send_46 (lv_at hl 0 rfl) ?_
    refine lv_iconst (v := (-1)) cx.1 cx.2.1 dX1_send_48 (by decide) ?_
    refine lv_icmp_ne (tgt := 58) cx.1 cx.2.1 dX1_send_49 (by decide) (fun c49 => ?_) (fun c49 => ?_)
    · have h := md_in c49 h
      refine lv_aload_n cx.1 cx.2.1 dX1_send_58 rfl (lv_at hl 3 rfl) ?_
      refine cd_gO (o2 := 6) (e2 := (9 + 1 * a1)) (o := 7) (k := 6) (f := 230) hj cx hw hic7 rfl ⟨by decide, rfl, by decide, rfl⟩ rfl (show _ < 8 by omega) ⟨rfl, rfl⟩ (List.mem_cons_of_mem _ cm_89) dX1_send_59 ?_
      refine cd_gI (o := 6) (k := 1) (f := 193) hj cx hw hic6 rfl ⟨by decide, rfl, by decide, rfl⟩ rfl (show _ < 197 by omega) (List.mem_cons_of_mem _ cm_74) dX1_send_62 ?_
      refine lv_iconst (v := 1) cx.1 cx.2.1 dX1_send_65 (by decide) ?_
      refine lv_isub cx.1 cx.2.1 dX1_send_66 ?_
      refine lv_iload_n cx.1 cx.2.1 dX1_send_67 rfl (lv_at hl 5 rfl) ?_
      refine lv_isub cx.1 cx.2.1 dX1_send_68 ?_
      refine lv_istore (lv' := [(7, .int (((cI p5.2 193 ((9 + 1 * a1))) - 1) - a3)), (6, .int p5.1), (4, .long p1.1), (0, .ref (ad 1 0)), (1, .ref (ad 7 a1)), (2, .int a2), (3, .int a3)]) cx.1 cx.2.1 dX1_send_69 hl (by decide) rfl (fun ls hl => ?_)
      refine lv_aload_n cx.1 cx.2.1 dX1_send_71 rfl (lv_at hl 3 rfl) ?_
      refine lv_aload_n cx.1 cx.2.1 dX1_send_72 rfl (lv_at hl 4 rfl) ?_
      refine lv_aload_n cx.1 cx.2.1 dX1_send_73 rfl (lv_at hl 3 rfl) ?_
      refine cd_gO (o2 := 2) (e2 := 0) (o := 1) (k := 0) (f := 32) hj cx hw hic1 rfl ⟨by decide, rfl, by decide, rfl⟩ rfl (by decide) ⟨rfl, rfl⟩ (List.mem_cons_of_mem _ cm_179) dX1_send_74 ?_
      refine lv_iload cx.1 cx.2.1 dX1_send_77 (lv_at hl 1 rfl) ?_
      obtain ⟨p6, e_p6, h⟩ := md_ob h
      refine hp_callVr (As := [.int p5.1]) (rest := [.ref (ad 7 a1), .ref (ad 1 0)]) cx hw (kc_X2_unitAt l D cA E _ ad _ hj oq sgq sgv hE n p5.2 (p5.1) p6 e_p6) (cwV 1 cx.2.2.2.2.2.1 (cd_giV cm_284 cm_285 cm_286 cm_167 cm_287) rfl rfl rfl hdc_X2_unitAt ⟨Nat.le_of_ble_eq_true rfl, Nat.le_of_ble_eq_true rfl⟩) (cd_atO hj (by decide) (by decide)) rfl rfl hl.1 rfl (Nat.le_of_ble_eq_true rfl) dX1_send_79 ⟨Nat.le_refl _, Nat.le_refl _⟩ (fun r u H locs hp hw => ?_)
      obtain ⟨⟨hb_p6, rfl⟩, ca, hj, rfl⟩ := hp
      refine lv_iload cx.1 cx.2.1 dX1_send_82 (lv_at hl 0 rfl) ?_
      refine lv_iload cx.1 cx.2.1 dX1_send_84 (lv_at hl 0 rfl) ?_
      refine lv_iconst (v := (-1)) cx.1 cx.2.1 dX1_send_86 (by decide) ?_
      obtain ⟨p7, e_p7, h⟩ := md_ob h
      refine hp_callVi (As := [.ref (ad 7 a1), .ref (ad 9 p6.1), .int (((cI p5.2 193 ((9 + 1 * a1))) - 1) - a3), .int (((cI p5.2 193 ((9 + 1 * a1))) - 1) - a3), .int (-1)]) (rest := []) cx hw (kc_X1_call l D cA E _ ad _ hj oq sgq sgv hE n p6.2 a1 (p6.1) ((((cI p5.2 193 ((9 + 1 * a1))) - 1) - a3)) ((((cI p5.2 193 ((9 + 1 * a1))) - 1) - a3)) ((-1) : Int32) (show _ < 8 by omega) (show _ < 60 by omega) p7 e_p7) (cwV 5 cx.2.2.2.2.2.1 (cd_giV cm_293 cm_294 cm_295 cm_130 cm_296) rfl rfl rfl hdc_X1_call ⟨Nat.le_of_ble_eq_true rfl, Nat.le_of_ble_eq_true rfl⟩) (cd_atO hj (by decide) (by decide)) rfl rfl hl.1 rfl (Nat.le_of_ble_eq_true rfl) dX1_send_87 ⟨Nat.le_refl _, Nat.le_refl _⟩ (fun r u H locs hp hw => ?_)
      obtain ⟨rfl, ca, hj, rfl⟩ := hp
      exact hp_iret cx hw (cd_ret hj h) dX1_send_90
    · have h := md_ip c49 h
      refine lv_aload_n cx.1 cx.2.1 dX1_send_52 rfl (lv_at hl 3 rfl) ?_
      refine lv_iconst (v := 2) cx.1 cx.2.1 dX1_send_53 (by decide) ?_
      obtain ⟨p8, e_p8, h⟩ := md_ob h
      refine hp_callSi (As := [.ref (ad 7 a1), .int 2]) (rest := []) cx hw (kc_X1_fail l D cA E _ ad _ hj oq sgq sgv hE n p5.2 a1 (2 : Int32) (show _ < 8 by omega) p8 e_p8) (cwS 2 cx.2.2.2.2.2.1 (cd_giS cm_132 cm_133 cm_130 cm_134) rfl rfl rfl hdc_X1_fail ⟨Nat.le_of_ble_eq_true rfl, Nat.le_of_ble_eq_true rfl⟩) rfl hl.1 rfl (Nat.le_of_ble_eq_true rfl) dX1_send_54 ⟨Nat.le_refl _, Nat.le_refl _⟩ (fun r u H locs hp hw => ?_)
      obtain ⟨rfl, ca, hj, rfl⟩ := hp
      exact hp_iret cx hw (cd_ret hj h) dX1_send_57
  · have h := md_in c13 h
    refine lv_aload_n cx.1 cx.2.1 dX1_send_16 rfl (lv_at hl 2 rfl) ?_
    refine lv_iconst (v := 3) cx.1 cx.2.1 dX1_send_17 (by decide) ?_
    obtain ⟨p9, e_p9, h⟩ := md_ob h
    refine hp_callSi (As := [.ref (ad 7 a1), .int 3]) (rest := []) cx hw (kc_X1_fail l D cA E _ ad _ hj oq sgq sgv hE n p2.2 a1 (3 : Int32) (show _ < 8 by omega) p9 e_p9) (cwS 2 cx.2.2.2.2.2.1 (cd_giS cm_132 cm_133 cm_130 cm_134) rfl rfl rfl hdc_X1_fail ⟨Nat.le_of_ble_eq_true rfl, Nat.le_of_ble_eq_true rfl⟩) rfl hl.1 rfl (Nat.le_of_ble_eq_true rfl) dX1_send_18 ⟨Nat.le_refl _, Nat.le_refl _⟩ (fun r u H locs hp hw => ?_)
    obtain ⟨rfl, ca, hj, rfl⟩ := hp
    exact hp_iret cx hw (cd_ret hj h) dX1_send_21
set_option maxHeartbeats 4000000 in
set_option maxRecDepth 100000 in
theorem kc_X1_spawn (l : Launch) (D : va_G) (cA : Nat → ClassId) (E : hp_N) (sz : Nat) (ad : Nat → Nat → Nat) (ca0 : Nat → Nat) (hj : cd_inj ad ca0) (oq sgq sgv : Nat) (hE : cd_E E oq sgq sgv) (n : Nat) (σ0 : cd_S) (b0 : cd_B) (a1 : Nat) (hb_a1 : a1 < 8) (p : (Int32 × cd_S × cd_B)) (h : f_X1_spawn n σ0 b0 a1 = some p) : (p.2.2.1 ≤ b0.1 ∧ p.2.2.2 ≤ b0.2) ∧ Met l yX1_spawn (Cond.code yX1_spawn cX1_spawn 6 (some .int) :: v_CLS) ({ frames := 6, cells := b0.1 - p.2.2.1, slots := b0.2 - p.2.2.2, locals := 158 }) (hp_Pc D vwCl (hp_Tl cA) E sz (cd_pic cA ad ca0 σ0) [.ref (ad 1 0), .ref (ad 7 a1)]) (hp_Qi D vwCl (hp_Tl cA) sz (cd_pic cA ad ca0 σ0) (fun r u => r = p.1 ∧ ∃ ca1, cd_inj ad ca1 ∧ u = cd_pic cA ad ca1 p.2.1)) (b0.1 - p.2.2.1) (b0.2 - p.2.2.2) (hp_A (cd_pic cA ad ca0 σ0) sz) := by
  obtain ⟨hm0, hn0, h⟩ := cd_cks h
  have hM0 : p.2.2.1 ≤ b0.1 ∧ p.2.2.2 ≤ b0.2 := ⟨hm0, hn0⟩
  refine ⟨hM0, ?_⟩
  refine hp_ofW (cc := cX1_spawn) (maxL := 6) (ret := (some .int)) (by decide) rfl (Nat.le_of_ble_eq_true rfl) ?_
  intro pp ee ss mm bb mt cd ls cx hsz hw hl
  have hl : lv_has ls 6 [(0, .ref (ad 1 0)), (1, .ref (ad 7 a1))] := hl
  refine W.widen (k := b0.1 - b0.1) (n := b0.2 - b0.2) (Nat.zero_le _) (Nat.zero_le _) ?_
  refine lv_aload_n cx.1 cx.2.1 dX1_spawn_0 rfl (lv_at hl 1 rfl) ?_
  refine cd_gO (o2 := 6) (e2 := (9 + 1 * a1)) (o := 7) (k := 6) (f := 230) hj cx hw hic7 rfl ⟨by decide, rfl, by decide, rfl⟩ rfl (show _ < 8 by omega) ⟨rfl, rfl⟩ (List.mem_cons_of_mem _ cm_89) dX1_spawn_1 ?_
  obtain ⟨p1, e_p1, h⟩ := md_ob h
  refine hp_callVl (As := []) (rest := []) cx hw (kc_X6_pop l D cA E _ ad _ hj oq sgq sgv hE n σ0 ((9 + 1 * a1)) (show _ < 197 by omega) p1 e_p1) (cwV 0 cx.2.2.2.2.2.1 (cd_giV cm_345 cm_346 cm_347 cm_5 cm_348) rfl rfl rfl hdc_X6_pop ⟨Nat.le_of_ble_eq_true rfl, Nat.le_of_ble_eq_true rfl⟩) (cd_atO hj (by decide) (show _ < 197 by omega)) rfl rfl hl.1 rfl (Nat.le_of_ble_eq_true rfl) dX1_spawn_4 ⟨by (try dsimp only); omega, by (try dsimp only); omega⟩ (fun r u H locs hp hw => ?_)
  obtain ⟨rfl, ca, hj, rfl⟩ := hp
  refine lv_lstore_n (lv' := [(2, .long p1.1), (0, .ref (ad 1 0)), (1, .ref (ad 7 a1))]) cx.1 cx.2.1 dX1_spawn_7 rfl hl (by decide) rfl (fun ls hl => ?_)
  refine lv_lload_n cx.1 cx.2.1 dX1_spawn_8 rfl (lv_at hl 0 rfl) ?_
  obtain ⟨p2, e_p2, h⟩ := md_ob h
  refine hp_callSi (As := [.long p1.1]) (rest := []) cx hw (kc_X1_sortOf l D cA E _ ad _ hj oq sgq sgv hE n p1.2 (p1.1) p2 e_p2) (cwS 1 cx.2.2.2.2.2.1 (cd_giS cm_279 cm_244 cm_130 cm_245) rfl rfl rfl hdc_X1_sortOf ⟨Nat.le_of_ble_eq_true rfl, Nat.le_of_ble_eq_true rfl⟩) rfl hl.1 rfl (Nat.le_of_ble_eq_true rfl) dX1_spawn_9 ⟨by (try dsimp only); omega, by (try dsimp only); omega⟩ (fun r u H locs hp hw => ?_)
  obtain ⟨rfl, ca, hj, rfl⟩ := hp
  refine lv_iconst (v := 3) cx.1 cx.2.1 dX1_spawn_12 (by decide) ?_
  refine lv_icmp_eq (tgt := 22) cx.1 cx.2.1 dX1_spawn_13 (by decide) (fun c13 => ?_) (fun c13 => ?_)
  · have h := md_ip c13 h
    refine lv_aload_n cx.1 cx.2.1 dX1_spawn_22 rfl (lv_at hl 1 rfl) ?_
    refine cd_gO (o2 := 2) (e2 := 0) (o := 1) (k := 0) (f := 32) hj cx hw hic1 rfl ⟨by decide, rfl, by decide, rfl⟩ rfl (by decide) ⟨rfl, rfl⟩ (List.mem_cons_of_mem _ cm_179) dX1_spawn_23 ?_
    refine lv_aload_n cx.1 cx.2.1 dX1_spawn_26 rfl (lv_at hl 1 rfl) ?_
    refine lv_lload_n cx.1 cx.2.1 dX1_spawn_27 rfl (lv_at hl 0 rfl) ?_
    obtain ⟨p3, e_p3, h⟩ := md_ob h
    refine hp_callVi (As := [.long p1.1]) (rest := [.ref (ad 2 0)]) cx hw (kc_X1_thingOf l D cA E _ ad _ hj oq sgq sgv hE n p2.2 (p1.1) p3 e_p3) (cwV 1 cx.2.2.2.2.2.1 (cd_giV cm_280 cm_281 cm_282 cm_130 cm_283) rfl rfl rfl hdc_X1_thingOf ⟨Nat.le_of_ble_eq_true rfl, Nat.le_of_ble_eq_true rfl⟩) (cd_atO hj (by decide) (by decide)) rfl rfl hl.1 rfl (Nat.le_of_ble_eq_true rfl) dX1_spawn_28 ⟨by (try dsimp only); omega, by (try dsimp only); omega⟩ (fun r u H locs hp hw => ?_)
    obtain ⟨rfl, ca, hj, rfl⟩ := hp
    obtain ⟨p4, e_p4, h⟩ := md_ob h
    refine hp_callVr (As := [.int p3.1]) (rest := []) cx hw (kc_X2_unitAt l D cA E _ ad _ hj oq sgq sgv hE n p3.2 (p3.1) p4 e_p4) (cwV 1 cx.2.2.2.2.2.1 (cd_giV cm_284 cm_285 cm_286 cm_167 cm_287) rfl rfl rfl hdc_X2_unitAt ⟨Nat.le_of_ble_eq_true rfl, Nat.le_of_ble_eq_true rfl⟩) (cd_atO hj (by decide) (by decide)) rfl rfl hl.1 rfl (Nat.le_of_ble_eq_true rfl) dX1_spawn_31 ⟨by (try dsimp only); omega, by (try dsimp only); omega⟩ (fun r u H locs hp hw => ?_)
    obtain ⟨⟨hb_p4, rfl⟩, ca, hj, rfl⟩ := hp
    refine lv_astore (lv' := [(4, .ref (ad 9 p4.1)), (2, .long p1.1), (0, .ref (ad 1 0)), (1, .ref (ad 7 a1))]) cx.1 cx.2.1 dX1_spawn_34 hl (by decide) rfl (fun ls hl => ?_)
    refine lv_aload cx.1 cx.2.1 dX1_spawn_36 (lv_at hl 0 rfl) ?_
    refine cd_gI (o := 9) (k := 6) (f := 294) hj cx hw hic9 rfl ⟨by decide, rfl, by decide, rfl⟩ rfl (show _ < 60 by omega) (List.mem_cons_of_mem _ cm_288) dX1_spawn_38 ?_
    refine lv_if_eq (tgt := 50) cx.1 cx.2.1 dX1_spawn_41 (by decide) (fun c41 => ?_) (fun c41 => ?_)
    · have h := md_ip c41 h
      refine lv_aload_n cx.1 cx.2.1 dX1_spawn_50 rfl (lv_at hl 2 rfl) ?_
      refine cd_gI (o := 1) (k := 8) (f := 40) hj cx hw hic1 rfl ⟨by decide, rfl, by decide, rfl⟩ rfl (by decide) (List.mem_cons_of_mem _ cm_153) dX1_spawn_51 ?_
      refine lv_bipush (v := 8) cx.1 cx.2.1 dX1_spawn_54 (by decide) ?_
      refine lv_icmp_lt (tgt := 66) cx.1 cx.2.1 dX1_spawn_56 (by decide) (fun c56 => ?_) (fun c56 => ?_)
      · have h := md_ip c56 h
        refine lv_aload_n cx.1 cx.2.1 dX1_spawn_66 rfl (lv_at hl 2 rfl) ?_
        refine lv_aload_n cx.1 cx.2.1 dX1_spawn_67 rfl (lv_at hl 2 rfl) ?_
        refine cd_gI (o := 1) (k := 8) (f := 40) hj cx hw hic1 rfl ⟨by decide, rfl, by decide, rfl⟩ rfl (by decide) (List.mem_cons_of_mem _ cm_153) dX1_spawn_68 ?_
        obtain ⟨p5, e_p5, h⟩ := md_ob h
        refine hp_callVr (As := [.int (cI p4.2 40 0)]) (rest := []) cx hw (kc_X1_strandAt l D cA E _ ad _ hj oq sgq sgv hE n p4.2 ((cI p4.2 40 0)) p5 e_p5) (cwV 1 cx.2.2.2.2.2.1 (cd_giV cm_219 cm_220 cm_221 cm_130 cm_222) rfl rfl rfl hdc_X1_strandAt ⟨Nat.le_of_ble_eq_true rfl, Nat.le_of_ble_eq_true rfl⟩) (cd_atO hj (by decide) (by decide)) rfl rfl hl.1 rfl (Nat.le_of_ble_eq_true rfl) dX1_spawn_71 ⟨by (try dsimp only); omega, by (try dsimp only); omega⟩ (fun r u H locs hp hw => ?_)
        obtain ⟨⟨hb_p5, rfl⟩, ca, hj, rfl⟩ := hp
        refine lv_astore (lv' := [(5, .ref (ad 7 p5.1)), (4, .ref (ad 9 p4.1)), (2, .long p1.1), (0, .ref (ad 1 0)), (1, .ref (ad 7 a1))]) cx.1 cx.2.1 dX1_spawn_74 hl (by decide) rfl (fun ls hl => ?_)
        refine lv_aload cx.1 cx.2.1 dX1_spawn_76 (lv_at hl 0 rfl) ?_
        refine lv_aload_n cx.1 cx.2.1 dX1_spawn_78 rfl (lv_at hl 3 rfl) ?_
        refine cd_gI (o := 1) (k := 8) (f := 40) hj cx hw hic1 rfl ⟨by decide, rfl, by decide, rfl⟩ rfl (by decide) (List.mem_cons_of_mem _ cm_153) dX1_spawn_79 ?_
        obtain ⟨p6, e_p6, h⟩ := md_ob h
        refine hp_callVv (As := [.int (cI p5.2 40 0)]) (rest := []) cx hw (kc_X7_clear l D cA E _ ad _ hj oq sgq sgv hE n p5.2 (p5.1) ((cI p5.2 40 0)) (show _ < 8 by omega) p6 e_p6) (cwV 1 cx.2.2.2.2.2.1 (cd_giV cm_202 cm_203 cm_204 cm_94 cm_205) rfl rfl rfl hdc_X7_clear ⟨Nat.le_of_ble_eq_true rfl, Nat.le_of_ble_eq_true rfl⟩) (cd_atO hj (by decide) (show _ < 8 by omega)) rfl rfl hl.1 rfl (Nat.le_of_ble_eq_true rfl) dX1_spawn_82 ⟨by (try dsimp only); omega, by (try dsimp only); omega⟩ (fun u H locs hp hw => ?_)
        obtain ⟨ca, hj, rfl⟩ := hp
        refine lv_aload_n cx.1 cx.2.1 dX1_spawn_85 rfl (lv_at hl 3 rfl) ?_
        refine lv_aload cx.1 cx.2.1 dX1_spawn_86 (lv_at hl 0 rfl) ?_
        refine lv_lload_n cx.1 cx.2.1 dX1_spawn_88 rfl (lv_at hl 2 rfl) ?_
        refine lv_aload cx.1 cx.2.1 dX1_spawn_89 (lv_at hl 1 rfl) ?_
        obtain ⟨p7, e_p7, h⟩ := md_ob h
        obtain ⟨hm8, hn8, h⟩ := cd_cks h
        have hM8 : p.2.2.1 ≤ p7.2.2.1 ∧ p.2.2.2 ≤ p7.2.2.2 := ⟨hm8, hn8⟩
        have hle7 := (kc_X1_pushCaptured l D cA E sz ad _ hj oq sgq sgv hE n p6.2 b0 (p5.1) (p1.1) (p4.1) (show _ < 8 by omega) (show _ < 60 by omega) p7 e_p7).1
        refine hp_callVv (As := [.ref (ad 7 p5.1), .long p1.1, .ref (ad 9 p4.1)]) (rest := []) cx hw ((kc_X1_pushCaptured l D cA E _ ad _ hj oq sgq sgv hE n p6.2 b0 (p5.1) (p1.1) (p4.1) (show _ < 8 by omega) (show _ < 60 by omega) p7 e_p7).2) (cwV 3 cx.2.2.2.2.2.1 (cd_giV cm_289 cm_290 cm_291 cm_130 cm_292) rfl rfl rfl hdc_X1_pushCaptured ⟨Nat.le_of_ble_eq_true rfl, Nat.le_of_ble_eq_true rfl⟩) (cd_atO hj (by decide) (by decide)) rfl rfl hl.1 rfl (Nat.le_of_ble_eq_true rfl) dX1_spawn_91 ⟨by (try dsimp only); omega, by (try dsimp only); omega⟩ (fun u H locs hp hw => ?_)
        obtain ⟨ca, hj, rfl⟩ := hp
        refine W.widen (k := b0.1 - p7.2.2.1) (n := b0.2 - p7.2.2.2) (by omega) (by omega) ?_
        refine lv_aload_n cx.1 cx.2.1 dX1_spawn_94 rfl (lv_at hl 3 rfl) ?_
        refine lv_aload cx.1 cx.2.1 dX1_spawn_95 (lv_at hl 0 rfl) ?_
        refine lv_aload cx.1 cx.2.1 dX1_spawn_97 (lv_at hl 1 rfl) ?_
        refine lv_iconst (v := 0) cx.1 cx.2.1 dX1_spawn_99 (by decide) ?_
        refine lv_iconst (v := 0) cx.1 cx.2.1 dX1_spawn_100 (by decide) ?_
        refine lv_iconst (v := (-1)) cx.1 cx.2.1 dX1_spawn_101 (by decide) ?_
        obtain ⟨p9, e_p9, h⟩ := md_ob h
        refine hp_callVi (As := [.ref (ad 7 p5.1), .ref (ad 9 p4.1), .int 0, .int 0, .int (-1)]) (rest := []) cx hw (kc_X1_call l D cA E _ ad _ hj oq sgq sgv hE n p7.2.1 (p5.1) (p4.1) (0 : Int32) (0 : Int32) ((-1) : Int32) (show _ < 8 by omega) (show _ < 60 by omega) p9 e_p9) (cwV 5 cx.2.2.2.2.2.1 (cd_giV cm_293 cm_294 cm_295 cm_130 cm_296) rfl rfl rfl hdc_X1_call ⟨Nat.le_of_ble_eq_true rfl, Nat.le_of_ble_eq_true rfl⟩) (cd_atO hj (by decide) (by decide)) rfl rfl hl.1 rfl (Nat.le_of_ble_eq_true rfl) dX1_spawn_102 ⟨by (try dsimp only); omega, by (try dsimp only); omega⟩ (fun r u H locs hp hw => ?_)
        obtain ⟨rfl, ca, hj, rfl⟩ := hp
        exact hp_iret cx hw (cd_retb hj h) dX1_spawn_105 (cd_le1 h) (cd_le2 h)
      · have h := md_in c56 h
        refine lv_aload_n cx.1 cx.2.1 dX1_spawn_59 rfl (lv_at hl 3 rfl) ?_
        refine lv_bipush (v := 7) cx.1 cx.2.1 dX1_spawn_60 (by decide) ?_
        obtain ⟨p10, e_p10, h⟩ := md_ob h
        refine hp_callSi (As := [.ref (ad 7 a1), .int 7]) (rest := []) cx hw (kc_X1_fail l D cA E _ ad _ hj oq sgq sgv hE n p4.2 a1 (7 : Int32) (show _ < 8 by omega) p10 e_p10) (cwS 2 cx.2.2.2.2.2.1 (cd_giS cm_132 cm_133 cm_130 cm_134) rfl rfl rfl hdc_X1_fail ⟨Nat.le_of_ble_eq_true rfl, Nat.le_of_ble_eq_true rfl⟩) rfl hl.1 rfl (Nat.le_of_ble_eq_true rfl) dX1_spawn_62 ⟨by (try dsimp only); omega, by (try dsimp only); omega⟩ (fun r u H locs hp hw => ?_)
        obtain ⟨rfl, ca, hj, rfl⟩ := hp
        exact hp_iret cx hw (cd_retb hj h) dX1_spawn_65 (cd_le1 h) (cd_le2 h)
    · have h := md_in c41 h
      refine lv_aload_n cx.1 cx.2.1 dX1_spawn_44 rfl (lv_at hl 3 rfl) ?_
      refine lv_iconst (v := 4) cx.1 cx.2.1 dX1_spawn_45 (by decide) ?_
      obtain ⟨p11, e_p11, h⟩ := md_ob h
      refine hp_callSi (As := [.ref (ad 7 a1), .int 4]) (rest := []) cx hw (kc_X1_fail l D cA E _ ad _ hj oq sgq sgv hE n p4.2 a1 (4 : Int32) (show _ < 8 by omega) p11 e_p11) (cwS 2 cx.2.2.2.2.2.1 (cd_giS cm_132 cm_133 cm_130 cm_134) rfl rfl rfl hdc_X1_fail ⟨Nat.le_of_ble_eq_true rfl, Nat.le_of_ble_eq_true rfl⟩) rfl hl.1 rfl (Nat.le_of_ble_eq_true rfl) dX1_spawn_46 ⟨by (try dsimp only); omega, by (try dsimp only); omega⟩ (fun r u H locs hp hw => ?_)
      obtain ⟨rfl, ca, hj, rfl⟩ := hp
      exact hp_iret cx hw (cd_retb hj h) dX1_spawn_49 (cd_le1 h) (cd_le2 h)
  · have h := md_in c13 h
    refine lv_aload_n cx.1 cx.2.1 dX1_spawn_16 rfl (lv_at hl 2 rfl) ?_
    refine lv_iconst (v := 3) cx.1 cx.2.1 dX1_spawn_17 (by decide) ?_
    obtain ⟨p12, e_p12, h⟩ := md_ob h
    refine hp_callSi (As := [.ref (ad 7 a1), .int 3]) (rest := []) cx hw (kc_X1_fail l D cA E _ ad _ hj oq sgq sgv hE n p2.2 a1 (3 : Int32) (show _ < 8 by omega) p12 e_p12) (cwS 2 cx.2.2.2.2.2.1 (cd_giS cm_132 cm_133 cm_130 cm_134) rfl rfl rfl hdc_X1_fail ⟨Nat.le_of_ble_eq_true rfl, Nat.le_of_ble_eq_true rfl⟩) rfl hl.1 rfl (Nat.le_of_ble_eq_true rfl) dX1_spawn_18 ⟨by (try dsimp only); omega, by (try dsimp only); omega⟩ (fun r u H locs hp hw => ?_)
    obtain ⟨rfl, ca, hj, rfl⟩ := hp
    exact hp_iret cx hw (cd_retb hj h) dX1_spawn_21 (cd_le1 h) (cd_le2 h)
set_option maxHeartbeats 4000000 in
set_option maxRecDepth 100000 in
theorem kc_X1_writeField (l : Launch) (D : va_G) (cA : Nat → ClassId) (E : hp_N) (sz : Nat) (ad : Nat → Nat → Nat) (ca0 : Nat → Nat) (hj : cd_inj ad ca0) (oq sgq sgv : Nat) (hE : cd_E E oq sgq sgv) (n : Nat) (σ0 : cd_S) (b0 : cd_B) (a1 : Nat) (a2 : Int32) (hb_a1 : a1 < 8) (p : (Int32 × cd_S × cd_B)) (h : f_X1_writeField n σ0 b0 a1 a2 = some p) : (p.2.2.1 ≤ b0.1 ∧ p.2.2.2 ≤ b0.2) ∧ Met l yX1_writeField (Cond.code yX1_writeField cX1_writeField 8 (some .int) :: v_CLS) ({ frames := 5, cells := b0.1 - p.2.2.1, slots := b0.2 - p.2.2.2, locals := 133 }) (hp_Pc D vwCl (hp_Tl cA) E sz (cd_pic cA ad ca0 σ0) [.ref (ad 1 0), .ref (ad 7 a1), .int a2]) (hp_Qi D vwCl (hp_Tl cA) sz (cd_pic cA ad ca0 σ0) (fun r u => r = p.1 ∧ ∃ ca1, cd_inj ad ca1 ∧ u = cd_pic cA ad ca1 p.2.1)) (b0.1 - p.2.2.1) (b0.2 - p.2.2.2) (hp_A (cd_pic cA ad ca0 σ0) sz) := by
  obtain ⟨hm0, hn0, h⟩ := cd_cks h
  have hM0 : p.2.2.1 ≤ b0.1 ∧ p.2.2.2 ≤ b0.2 := ⟨hm0, hn0⟩
  refine ⟨hM0, ?_⟩
  refine hp_ofW (cc := cX1_writeField) (maxL := 8) (ret := (some .int)) (by decide) rfl (Nat.le_of_ble_eq_true rfl) ?_
  intro pp ee ss mm bb mt cd ls cx hsz hw hl
  have hl : lv_has ls 8 [(0, .ref (ad 1 0)), (1, .ref (ad 7 a1)), (2, .int a2)] := hl
  refine W.widen (k := b0.1 - b0.1) (n := b0.2 - b0.2) (Nat.zero_le _) (Nat.zero_le _) ?_
  refine lv_aload_n cx.1 cx.2.1 dX1_writeField_0 rfl (lv_at hl 1 rfl) ?_
  refine cd_gO (o2 := 6) (e2 := (9 + 1 * a1)) (o := 7) (k := 6) (f := 230) hj cx hw hic7 rfl ⟨by decide, rfl, by decide, rfl⟩ rfl (show _ < 8 by omega) ⟨rfl, rfl⟩ (List.mem_cons_of_mem _ cm_89) dX1_writeField_1 ?_
  obtain ⟨p1, e_p1, h⟩ := md_ob h
  refine hp_callVl (As := []) (rest := []) cx hw (kc_X6_pop l D cA E _ ad _ hj oq sgq sgv hE n σ0 ((9 + 1 * a1)) (show _ < 197 by omega) p1 e_p1) (cwV 0 cx.2.2.2.2.2.1 (cd_giV cm_345 cm_346 cm_347 cm_5 cm_348) rfl rfl rfl hdc_X6_pop ⟨Nat.le_of_ble_eq_true rfl, Nat.le_of_ble_eq_true rfl⟩) (cd_atO hj (by decide) (show _ < 197 by omega)) rfl rfl hl.1 rfl (Nat.le_of_ble_eq_true rfl) dX1_writeField_4 ⟨by (try dsimp only); omega, by (try dsimp only); omega⟩ (fun r u H locs hp hw => ?_)
  obtain ⟨rfl, ca, hj, rfl⟩ := hp
  refine lv_lstore_n (lv' := [(3, .long p1.1), (0, .ref (ad 1 0)), (1, .ref (ad 7 a1)), (2, .int a2)]) cx.1 cx.2.1 dX1_writeField_7 rfl hl (by decide) rfl (fun ls hl => ?_)
  refine lv_aload_n cx.1 cx.2.1 dX1_writeField_8 rfl (lv_at hl 2 rfl) ?_
  refine cd_gO (o2 := 6) (e2 := (9 + 1 * a1)) (o := 7) (k := 6) (f := 230) hj cx hw hic7 rfl ⟨by decide, rfl, by decide, rfl⟩ rfl (show _ < 8 by omega) ⟨rfl, rfl⟩ (List.mem_cons_of_mem _ cm_89) dX1_writeField_9 ?_
  obtain ⟨p2, e_p2, h⟩ := md_ob h
  refine hp_callVl (As := []) (rest := []) cx hw (kc_X6_pop l D cA E _ ad _ hj oq sgq sgv hE n p1.2 ((9 + 1 * a1)) (show _ < 197 by omega) p2 e_p2) (cwV 0 cx.2.2.2.2.2.1 (cd_giV cm_345 cm_346 cm_347 cm_5 cm_348) rfl rfl rfl hdc_X6_pop ⟨Nat.le_of_ble_eq_true rfl, Nat.le_of_ble_eq_true rfl⟩) (cd_atO hj (by decide) (show _ < 197 by omega)) rfl rfl hl.1 rfl (Nat.le_of_ble_eq_true rfl) dX1_writeField_12 ⟨by (try dsimp only); omega, by (try dsimp only); omega⟩ (fun r u H locs hp hw => ?_)
  obtain ⟨rfl, ca, hj, rfl⟩ := hp
  refine lv_lstore (lv' := [(5, .long p2.1), (3, .long p1.1), (0, .ref (ad 1 0)), (1, .ref (ad 7 a1)), (2, .int a2)]) cx.1 cx.2.1 dX1_writeField_15 hl (by decide) rfl (fun ls hl => ?_)
  refine lv_lload cx.1 cx.2.1 dX1_writeField_17 (lv_at hl 0 rfl) ?_
  obtain ⟨p3, e_p3, h⟩ := md_ob h
  refine hp_callSi (As := [.long p2.1]) (rest := []) cx hw (kc_X1_sortOf l D cA E _ ad _ hj oq sgq sgv hE n p2.2 (p2.1) p3 e_p3) (cwS 1 cx.2.2.2.2.2.1 (cd_giS cm_279 cm_244 cm_130 cm_245) rfl rfl rfl hdc_X1_sortOf ⟨Nat.le_of_ble_eq_true rfl, Nat.le_of_ble_eq_true rfl⟩) rfl hl.1 rfl (Nat.le_of_ble_eq_true rfl) dX1_writeField_19 ⟨by (try dsimp only); omega, by (try dsimp only); omega⟩ (fun r u H locs hp hw => ?_)
  obtain ⟨rfl, ca, hj, rfl⟩ := hp
  refine lv_iconst (v := 2) cx.1 cx.2.1 dX1_writeField_22 (by decide) ?_
  refine lv_icmp_eq (tgt := 32) cx.1 cx.2.1 dX1_writeField_23 (by decide) (fun c23 => ?_) (fun c23 => ?_)
  · have h := md_ip c23 h
    refine lv_aload_n cx.1 cx.2.1 dX1_writeField_32 rfl (lv_at hl 2 rfl) ?_
    refine cd_gO (o2 := 2) (e2 := 0) (o := 1) (k := 0) (f := 32) hj cx hw hic1 rfl ⟨by decide, rfl, by decide, rfl⟩ rfl (by decide) ⟨rfl, rfl⟩ (List.mem_cons_of_mem _ cm_179) dX1_writeField_33 ?_
    refine lv_aload_n cx.1 cx.2.1 dX1_writeField_36 rfl (lv_at hl 2 rfl) ?_
    refine lv_lload cx.1 cx.2.1 dX1_writeField_37 (lv_at hl 0 rfl) ?_
    obtain ⟨p4, e_p4, h⟩ := md_ob h
    refine hp_callVi (As := [.long p2.1]) (rest := [.ref (ad 2 0)]) cx hw (kc_X1_thingOf l D cA E _ ad _ hj oq sgq sgv hE n p3.2 (p2.1) p4 e_p4) (cwV 1 cx.2.2.2.2.2.1 (cd_giV cm_280 cm_281 cm_282 cm_130 cm_283) rfl rfl rfl hdc_X1_thingOf ⟨Nat.le_of_ble_eq_true rfl, Nat.le_of_ble_eq_true rfl⟩) (cd_atO hj (by decide) (by decide)) rfl rfl hl.1 rfl (Nat.le_of_ble_eq_true rfl) dX1_writeField_39 ⟨by (try dsimp only); omega, by (try dsimp only); omega⟩ (fun r u H locs hp hw => ?_)
    obtain ⟨rfl, ca, hj, rfl⟩ := hp
    refine lv_aload_n cx.1 cx.2.1 dX1_writeField_42 rfl (lv_at hl 2 rfl) ?_
    refine cd_gO (o2 := 2) (e2 := 0) (o := 1) (k := 0) (f := 32) hj cx hw hic1 rfl ⟨by decide, rfl, by decide, rfl⟩ rfl (by decide) ⟨rfl, rfl⟩ (List.mem_cons_of_mem _ cm_179) dX1_writeField_43 ?_
    refine lv_iload_n cx.1 cx.2.1 dX1_writeField_46 rfl (lv_at hl 4 rfl) ?_
    obtain ⟨p5, e_p5, h⟩ := md_ob h
    refine hp_callVl (As := [.int a2]) (rest := [.int p4.1, .ref (ad 2 0)]) cx hw (kc_X2_nameAt l D cA E _ ad _ hj oq sgq sgv hE n p4.2 a2 p5 e_p5) (cwV 1 cx.2.2.2.2.2.1 (cd_giV cm_384 cm_385 cm_386 cm_167 cm_387) rfl rfl rfl hdc_X2_nameAt ⟨Nat.le_of_ble_eq_true rfl, Nat.le_of_ble_eq_true rfl⟩) (cd_atO hj (by decide) (by decide)) rfl rfl hl.1 rfl (Nat.le_of_ble_eq_true rfl) dX1_writeField_47 ⟨by (try dsimp only); omega, by (try dsimp only); omega⟩ (fun r u H locs hp hw => ?_)
    obtain ⟨rfl, ca, hj, rfl⟩ := hp
    obtain ⟨p6, e_p6, h⟩ := md_ob h
    refine hp_callVi (As := [.int p4.1, .long p5.1]) (rest := []) cx hw (kc_X2_fieldSlot l D cA E _ ad _ hj oq sgq sgv hE n p5.2 (p4.1) (p5.1) p6 e_p6) (cwV 2 cx.2.2.2.2.2.1 (cd_giV cm_388 cm_389 cm_390 cm_167 cm_391) rfl rfl rfl hdc_X2_fieldSlot ⟨Nat.le_of_ble_eq_true rfl, Nat.le_of_ble_eq_true rfl⟩) (cd_atO hj (by decide) (by decide)) rfl rfl hl.1 rfl (Nat.le_of_ble_eq_true rfl) dX1_writeField_50 ⟨by (try dsimp only); omega, by (try dsimp only); omega⟩ (fun r u H locs hp hw => ?_)
    obtain ⟨rfl, ca, hj, rfl⟩ := hp
    refine lv_istore (lv' := [(7, .int p6.1), (5, .long p2.1), (3, .long p1.1), (0, .ref (ad 1 0)), (1, .ref (ad 7 a1)), (2, .int a2)]) cx.1 cx.2.1 dX1_writeField_53 hl (by decide) rfl (fun ls hl => ?_)
    refine lv_iload cx.1 cx.2.1 dX1_writeField_55 (lv_at hl 0 rfl) ?_
    refine lv_iconst (v := (-1)) cx.1 cx.2.1 dX1_writeField_57 (by decide) ?_
    refine lv_icmp_ne (tgt := 67) cx.1 cx.2.1 dX1_writeField_58 (by decide) (fun c58 => ?_) (fun c58 => ?_)
    · have h := md_in c58 h
      refine lv_aload_n cx.1 cx.2.1 dX1_writeField_67 rfl (lv_at hl 3 rfl) ?_
      refine cd_gO (o2 := 6) (e2 := 7) (o := 1) (k := 6) (f := 38) hj cx hw hic1 rfl ⟨by decide, rfl, by decide, rfl⟩ rfl (by decide) ⟨rfl, rfl⟩ (List.mem_cons_of_mem _ cm_162) dX1_writeField_68 ?_
      refine lv_aload_n cx.1 cx.2.1 dX1_writeField_71 rfl (lv_at hl 3 rfl) ?_
      refine lv_lload cx.1 cx.2.1 dX1_writeField_72 (lv_at hl 1 rfl) ?_
      obtain ⟨p7, e_p7, h⟩ := md_ob h
      refine hp_callVi (As := [.long p2.1]) (rest := [.ref (ad 6 7)]) cx hw (kc_X1_slotsOf l D cA E _ ad _ hj oq sgq sgv hE n p6.2 (p2.1) p7 e_p7) (cwV 1 cx.2.2.2.2.2.1 (cd_giV cm_269 cm_270 cm_271 cm_130 cm_272) rfl rfl rfl hdc_X1_slotsOf ⟨Nat.le_of_ble_eq_true rfl, Nat.le_of_ble_eq_true rfl⟩) (cd_atO hj (by decide) (by decide)) rfl rfl hl.1 rfl (Nat.le_of_ble_eq_true rfl) dX1_writeField_74 ⟨by (try dsimp only); omega, by (try dsimp only); omega⟩ (fun r u H locs hp hw => ?_)
      obtain ⟨rfl, ca, hj, rfl⟩ := hp
      refine lv_iload cx.1 cx.2.1 dX1_writeField_77 (lv_at hl 0 rfl) ?_
      refine lv_iadd cx.1 cx.2.1 dX1_writeField_79 ?_
      refine lv_lload_n cx.1 cx.2.1 dX1_writeField_80 rfl (lv_at hl 2 rfl) ?_
      obtain ⟨p8, e_p8, h⟩ := md_ob h
      refine hp_callVv (As := [.int (p7.1 + p6.1), .long p1.1]) (rest := []) cx hw (kc_X6_set l D cA E _ ad _ hj oq sgq sgv hE n p7.2 7 ((p7.1 + p6.1)) (p1.1) (by decide) p8 e_p8) (cwV 2 cx.2.2.2.2.2.1 (cd_giV cm_376 cm_377 cm_378 cm_5 cm_379) rfl rfl rfl hdc_X6_set ⟨Nat.le_of_ble_eq_true rfl, Nat.le_of_ble_eq_true rfl⟩) (cd_atO hj (by decide) (by decide)) rfl rfl hl.1 rfl (Nat.le_of_ble_eq_true rfl) dX1_writeField_81 ⟨by (try dsimp only); omega, by (try dsimp only); omega⟩ (fun u H locs hp hw => ?_)
      obtain ⟨ca, hj, rfl⟩ := hp
      refine lv_aload_n cx.1 cx.2.1 dX1_writeField_84 rfl (lv_at hl 4 rfl) ?_
      refine lv_lload_n cx.1 cx.2.1 dX1_writeField_85 rfl (lv_at hl 2 rfl) ?_
      obtain ⟨p9, e_p9, h⟩ := md_ob h
      obtain ⟨hm10, hn10, h⟩ := cd_cks h
      have hM10 : p.2.2.1 ≤ p9.2.2.1 ∧ p.2.2.2 ≤ p9.2.2.2 := ⟨hm10, hn10⟩
      have hle9 := (kc_X1_push l D cA E sz ad _ hj oq sgq sgv hE n p8.2 b0 a1 (p1.1) (show _ < 8 by omega) p9 e_p9).1
      refine hp_callSi (As := [.ref (ad 7 a1), .long p1.1]) (rest := []) cx hw ((kc_X1_push l D cA E _ ad _ hj oq sgq sgv hE n p8.2 b0 a1 (p1.1) (show _ < 8 by omega) p9 e_p9).2) (cwS 2 cx.2.2.2.2.2.1 (cd_giS cm_157 cm_158 cm_130 cm_159) rfl rfl rfl hdc_X1_push ⟨Nat.le_of_ble_eq_true rfl, Nat.le_of_ble_eq_true rfl⟩) rfl hl.1 rfl (Nat.le_of_ble_eq_true rfl) dX1_writeField_86 ⟨by (try dsimp only); omega, by (try dsimp only); omega⟩ (fun r u H locs hp hw => ?_)
      obtain ⟨rfl, ca, hj, rfl⟩ := hp
      refine W.widen (k := b0.1 - p9.2.2.1) (n := b0.2 - p9.2.2.2) (by omega) (by omega) ?_
      exact hp_iret cx hw (cd_retb hj h) dX1_writeField_89 (cd_le1 h) (cd_le2 h)
    · have h := md_ip c58 h
      refine lv_aload_n cx.1 cx.2.1 dX1_writeField_61 rfl (lv_at hl 4 rfl) ?_
      refine lv_iconst (v := 2) cx.1 cx.2.1 dX1_writeField_62 (by decide) ?_
      obtain ⟨p11, e_p11, h⟩ := md_ob h
      refine hp_callSi (As := [.ref (ad 7 a1), .int 2]) (rest := []) cx hw (kc_X1_fail l D cA E _ ad _ hj oq sgq sgv hE n p6.2 a1 (2 : Int32) (show _ < 8 by omega) p11 e_p11) (cwS 2 cx.2.2.2.2.2.1 (cd_giS cm_132 cm_133 cm_130 cm_134) rfl rfl rfl hdc_X1_fail ⟨Nat.le_of_ble_eq_true rfl, Nat.le_of_ble_eq_true rfl⟩) rfl hl.1 rfl (Nat.le_of_ble_eq_true rfl) dX1_writeField_63 ⟨by (try dsimp only); omega, by (try dsimp only); omega⟩ (fun r u H locs hp hw => ?_)
      obtain ⟨rfl, ca, hj, rfl⟩ := hp
      exact hp_iret cx hw (cd_retb hj h) dX1_writeField_66 (cd_le1 h) (cd_le2 h)
  · have h := md_in c23 h
    refine lv_aload_n cx.1 cx.2.1 dX1_writeField_26 rfl (lv_at hl 3 rfl) ?_
    refine lv_iconst (v := 3) cx.1 cx.2.1 dX1_writeField_27 (by decide) ?_
    obtain ⟨p12, e_p12, h⟩ := md_ob h
    refine hp_callSi (As := [.ref (ad 7 a1), .int 3]) (rest := []) cx hw (kc_X1_fail l D cA E _ ad _ hj oq sgq sgv hE n p3.2 a1 (3 : Int32) (show _ < 8 by omega) p12 e_p12) (cwS 2 cx.2.2.2.2.2.1 (cd_giS cm_132 cm_133 cm_130 cm_134) rfl rfl rfl hdc_X1_fail ⟨Nat.le_of_ble_eq_true rfl, Nat.le_of_ble_eq_true rfl⟩) rfl hl.1 rfl (Nat.le_of_ble_eq_true rfl) dX1_writeField_28 ⟨by (try dsimp only); omega, by (try dsimp only); omega⟩ (fun r u H locs hp hw => ?_)
    obtain ⟨rfl, ca, hj, rfl⟩ := hp
    exact hp_iret cx hw (cd_retb hj h) dX1_writeField_31 (cd_le1 h) (cd_le2 h)
set_option maxHeartbeats 4000000 in
set_option maxRecDepth 100000 in
theorem kc_X1_writeOut (l : Launch) (D : va_G) (cA : Nat → ClassId) (E : hp_N) (sz : Nat) (ad : Nat → Nat → Nat) (ca0 : Nat → Nat) (hj : cd_inj ad ca0) (oq sgq sgv : Nat) (hE : cd_E E oq sgq sgv) (n : Nat) (σ0 : cd_S) (b0 : cd_B) (a1 : Nat) (hb_a1 : a1 < 8) (p : (Int32 × cd_S × cd_B)) (h : f_X1_writeOut n σ0 b0 a1 = some p) : (p.2.2.1 ≤ b0.1 ∧ p.2.2.2 ≤ b0.2) ∧ Met l yX1_writeOut (Cond.code yX1_writeOut cX1_writeOut 4 (some .int) :: v_CLS) ({ frames := 5, cells := b0.1 - p.2.2.1, slots := b0.2 - p.2.2.2, locals := 136 }) (hp_Pc D vwCl (hp_Tl cA) E sz (cd_pic cA ad ca0 σ0) [.ref (ad 1 0), .ref (ad 7 a1)]) (hp_Qi D vwCl (hp_Tl cA) sz (cd_pic cA ad ca0 σ0) (fun r u => r = p.1 ∧ ∃ ca1, cd_inj ad ca1 ∧ u = cd_pic cA ad ca1 p.2.1)) (b0.1 - p.2.2.1) (b0.2 - p.2.2.2) (hp_A (cd_pic cA ad ca0 σ0) sz) := by
  obtain ⟨hm0, hn0, h⟩ := cd_cks h
  have hM0 : p.2.2.1 ≤ b0.1 ∧ p.2.2.2 ≤ b0.2 := ⟨hm0, hn0⟩
  refine ⟨hM0, ?_⟩
  refine hp_ofW (cc := cX1_writeOut) (maxL := 4) (ret := (some .int)) (by decide) rfl (Nat.le_of_ble_eq_true rfl) ?_
  intro pp ee ss mm bb mt cd ls cx hsz hw hl
  have hl : lv_has ls 4 [(0, .ref (ad 1 0)), (1, .ref (ad 7 a1))] := hl
  refine W.widen (k := b0.1 - b0.1) (n := b0.2 - b0.2) (Nat.zero_le _) (Nat.zero_le _) ?_
  refine lv_aload_n cx.1 cx.2.1 dX1_writeOut_0 rfl (lv_at hl 1 rfl) ?_
  refine lv_iconst (v := 0) cx.1 cx.2.1 dX1_writeOut_1 (by decide) ?_
  obtain ⟨p1, e_p1, h⟩ := md_ob h
  refine hp_callVl (As := [.int 0]) (rest := []) cx hw (kc_X7_peek l D cA E _ ad _ hj oq sgq sgv hE n σ0 a1 (0 : Int32) (show _ < 8 by omega) p1 e_p1) (cwV 1 cx.2.2.2.2.2.1 (cd_giV cm_275 cm_276 cm_277 cm_94 cm_278) rfl rfl rfl hdc_X7_peek ⟨Nat.le_of_ble_eq_true rfl, Nat.le_of_ble_eq_true rfl⟩) (cd_atO hj (by decide) (show _ < 8 by omega)) rfl rfl hl.1 rfl (Nat.le_of_ble_eq_true rfl) dX1_writeOut_2 ⟨by (try dsimp only); omega, by (try dsimp only); omega⟩ (fun r u H locs hp hw => ?_)
  obtain ⟨rfl, ca, hj, rfl⟩ := hp
  refine lv_lstore_n (lv' := [(2, .long p1.1), (0, .ref (ad 1 0)), (1, .ref (ad 7 a1))]) cx.1 cx.2.1 dX1_writeOut_5 rfl hl (by decide) rfl (fun ls hl => ?_)
  refine lv_lload_n cx.1 cx.2.1 dX1_writeOut_6 rfl (lv_at hl 0 rfl) ?_
  obtain ⟨p2, e_p2, h⟩ := md_ob h
  refine hp_callSi (As := [.long p1.1]) (rest := []) cx hw (kc_X1_sortOf l D cA E _ ad _ hj oq sgq sgv hE n p1.2 (p1.1) p2 e_p2) (cwS 1 cx.2.2.2.2.2.1 (cd_giS cm_279 cm_244 cm_130 cm_245) rfl rfl rfl hdc_X1_sortOf ⟨Nat.le_of_ble_eq_true rfl, Nat.le_of_ble_eq_true rfl⟩) rfl hl.1 rfl (Nat.le_of_ble_eq_true rfl) dX1_writeOut_7 ⟨by (try dsimp only); omega, by (try dsimp only); omega⟩ (fun r u H locs hp hw => ?_)
  obtain ⟨rfl, ca, hj, rfl⟩ := hp
  refine lv_if_eq (tgt := 19) cx.1 cx.2.1 dX1_writeOut_10 (by decide) (fun c10 => ?_) (fun c10 => ?_)
  · have h := md_ip c10 h
    refine lv_aload_n cx.1 cx.2.1 dX1_writeOut_19 rfl (lv_at hl 1 rfl) ?_
    refine lv_aload_n cx.1 cx.2.1 dX1_writeOut_20 rfl (lv_at hl 2 rfl) ?_
    refine lv_iconst (v := 0) cx.1 cx.2.1 dX1_writeOut_21 (by decide) ?_
    refine lv_lload_n cx.1 cx.2.1 dX1_writeOut_22 rfl (lv_at hl 0 rfl) ?_
    refine lv_l2i (v := (p1.1.toInt32)) cx.1 cx.2.1 dX1_writeOut_23 rfl ?_
    refine lv_iconst (v := (-1)) cx.1 cx.2.1 dX1_writeOut_24 (by decide) ?_
    refine lv_iconst (v := (-1)) cx.1 cx.2.1 dX1_writeOut_25 (by decide) ?_
    obtain ⟨p3, e_p3, h⟩ := md_ob h
    obtain ⟨hm4, hn4, h⟩ := cd_cks h
    have hM4 : p.2.2.1 ≤ p3.2.2.1 ∧ p.2.2.2 ≤ p3.2.2.2 := ⟨hm4, hn4⟩
    have hle3 := (kc_X1_record l D cA E sz ad _ hj oq sgq sgv hE n p2.2 b0 a1 (0 : Int32) ((p1.1.toInt32)) ((-1) : Int32) ((-1) : Int32) (show _ < 8 by omega) p3 e_p3).1
    refine hp_callVv (As := [.ref (ad 7 a1), .int 0, .int (p1.1.toInt32), .int (-1), .int (-1)]) (rest := []) cx hw ((kc_X1_record l D cA E _ ad _ hj oq sgq sgv hE n p2.2 b0 a1 (0 : Int32) ((p1.1.toInt32)) ((-1) : Int32) ((-1) : Int32) (show _ < 8 by omega) p3 e_p3).2) (cwV 5 cx.2.2.2.2.2.1 (cd_giV cm_263 cm_264 cm_265 cm_130 cm_266) rfl rfl rfl hdc_X1_record ⟨Nat.le_of_ble_eq_true rfl, Nat.le_of_ble_eq_true rfl⟩) (cd_atO hj (by decide) (by decide)) rfl rfl hl.1 rfl (Nat.le_of_ble_eq_true rfl) dX1_writeOut_26 ⟨by (try dsimp only); omega, by (try dsimp only); omega⟩ (fun u H locs hp hw => ?_)
    obtain ⟨ca, hj, rfl⟩ := hp
    refine W.widen (k := b0.1 - p3.2.2.1) (n := b0.2 - p3.2.2.2) (by omega) (by omega) ?_
    refine lv_iconst (v := 1) cx.1 cx.2.1 dX1_writeOut_29 (by decide) ?_
    exact hp_iret cx hw (cd_retb hj h) dX1_writeOut_30 (cd_le1 h) (cd_le2 h)
  · have h := md_in c10 h
    refine lv_aload_n cx.1 cx.2.1 dX1_writeOut_13 rfl (lv_at hl 2 rfl) ?_
    refine lv_iconst (v := 5) cx.1 cx.2.1 dX1_writeOut_14 (by decide) ?_
    obtain ⟨p5, e_p5, h⟩ := md_ob h
    refine hp_callSi (As := [.ref (ad 7 a1), .int 5]) (rest := []) cx hw (kc_X1_fail l D cA E _ ad _ hj oq sgq sgv hE n p2.2 a1 (5 : Int32) (show _ < 8 by omega) p5 e_p5) (cwS 2 cx.2.2.2.2.2.1 (cd_giS cm_132 cm_133 cm_130 cm_134) rfl rfl rfl hdc_X1_fail ⟨Nat.le_of_ble_eq_true rfl, Nat.le_of_ble_eq_true rfl⟩) rfl hl.1 rfl (Nat.le_of_ble_eq_true rfl) dX1_writeOut_15 ⟨by (try dsimp only); omega, by (try dsimp only); omega⟩ (fun r u H locs hp hw => ?_)
    obtain ⟨rfl, ca, hj, rfl⟩ := hp
    exact hp_iret cx hw (cd_retb hj h) dX1_writeOut_18 (cd_le1 h) (cd_le2 h)
set_option maxHeartbeats 4000000 in
set_option maxRecDepth 100000 in
theorem kc_X2_numberAt (l : Launch) (D : va_G) (cA : Nat → ClassId) (E : hp_N) (sz : Nat) (ad : Nat → Nat → Nat) (ca0 : Nat → Nat) (hj : cd_inj ad ca0) (oq sgq sgv : Nat) (hE : cd_E E oq sgq sgv) (n : Nat) (σ0 : cd_S) (a1 : Int32) (p : (Int32 × cd_S)) (h : f_X2_numberAt n σ0 a1 = some p) : Met l yX2_numberAt (Cond.code yX2_numberAt cX2_numberAt 2 (some .int) :: v_CLS) ({ frames := 0, cells := 0, slots := 0, locals := 0 }) (hp_Pc D vwCl (hp_Tl cA) E sz (cd_pic cA ad ca0 σ0) [.ref (ad 2 0), .int a1]) (hp_Qi D vwCl (hp_Tl cA) sz (cd_pic cA ad ca0 σ0) (fun r u => r = p.1 ∧ ∃ ca1, cd_inj ad ca1 ∧ u = cd_pic cA ad ca1 p.2)) 0 0 (hp_A (cd_pic cA ad ca0 σ0) sz) := by
  refine hp_ofW (cc := cX2_numberAt) (maxL := 2) (ret := (some .int)) (by decide) rfl (Nat.le_of_ble_eq_true rfl) ?_
  intro pp ee ss mm bb mt cd ls cx hsz hw hl
  have hl : lv_has ls 2 [(0, .ref (ad 2 0)), (1, .int a1)] := hl
  refine lv_iload_n cx.1 cx.2.1 dX2_numberAt_0 rfl (lv_at hl 1 rfl) ?_
  refine lv_if_lt (tgt := 21) cx.1 cx.2.1 dX2_numberAt_1 (by decide) (fun c1 => ?_) (fun c1 => ?_)
  · have h := md_ip c1 h
    refine lv_iconst (v := 0) cx.1 cx.2.1 dX2_numberAt_21 (by decide) ?_
    exact hp_iret cx hw (cd_ret hj h) dX2_numberAt_22
  · have h := md_in c1 h
    refine lv_iload_n cx.1 cx.2.1 dX2_numberAt_4 rfl (lv_at hl 1 rfl) ?_
    refine lv_aload_n cx.1 cx.2.1 dX2_numberAt_5 rfl (lv_at hl 0 rfl) ?_
    refine cd_gI (o := 2) (k := 12) (f := 76) hj cx hw hic2 rfl ⟨by decide, rfl, by decide, rfl⟩ rfl (by decide) (List.mem_cons_of_mem _ cm_405) dX2_numberAt_6 ?_
    refine lv_icmp_ge (tgt := 21) cx.1 cx.2.1 dX2_numberAt_9 (by decide) (fun c9 => ?_) (fun c9 => ?_)
    · have h := md_ip c9 h
      refine lv_iconst (v := 0) cx.1 cx.2.1 dX2_numberAt_21 (by decide) ?_
      exact hp_iret cx hw (cd_ret hj h) dX2_numberAt_22
    · have h := md_in c9 h
      refine lv_aload_n cx.1 cx.2.1 dX2_numberAt_12 rfl (lv_at hl 0 rfl) ?_
      refine cd_gA (o := 2) (k := 11) (f := 75) hj cx hw hic2 rfl ⟨by decide, rfl, by decide, rfl⟩ rfl (by decide) (List.mem_cons_of_mem _ cm_406) dX2_numberAt_13 ?_
      refine lv_iload_n cx.1 cx.2.1 dX2_numberAt_16 rfl (lv_at hl 1 rfl) ?_
      obtain ⟨v1, e_v1, h⟩ := md_ob h
      refine cd_lI (f := 75) hj cx hw (by decide) (by decide) rfl e_v1 dX2_numberAt_17 ?_
      refine lv_goto (tgt := 22) cx.1 cx.2.1 dX2_numberAt_18 (by decide) ?_
      exact hp_iret cx hw (cd_ret hj h) dX2_numberAt_22
set_option maxHeartbeats 4000000 in
set_option maxRecDepth 100000 in
theorem kc_X6_pairAt (l : Launch) (D : va_G) (cA : Nat → ClassId) (E : hp_N) (sz : Nat) (ad : Nat → Nat → Nat) (ca0 : Nat → Nat) (hj : cd_inj ad ca0) (oq sgq sgv : Nat) (hE : cd_E E oq sgq sgv) (n : Nat) (σ0 : cd_S) (a0 : Nat) (a1 : Int32) (hb_a0 : a0 < 197) (p : (Int32 × cd_S)) (h : f_X6_pairAt n σ0 a0 a1 = some p) : Met l yX6_pairAt (Cond.code yX6_pairAt cX6_pairAt 2 (some .int) :: v_CLS) ({ frames := 1, cells := 0, slots := 0, locals := 21 }) (hp_Pc D vwCl (hp_Tl cA) E sz (cd_pic cA ad ca0 σ0) [.ref (ad 6 a0), .int a1]) (hp_Qi D vwCl (hp_Tl cA) sz (cd_pic cA ad ca0 σ0) (fun r u => r = p.1 ∧ ∃ ca1, cd_inj ad ca1 ∧ u = cd_pic cA ad ca1 p.2)) 0 0 (hp_A (cd_pic cA ad ca0 σ0) sz) := by
  refine hp_ofW (cc := cX6_pairAt) (maxL := 2) (ret := (some .int)) (by decide) rfl (Nat.le_of_ble_eq_true rfl) ?_
  intro pp ee ss mm bb mt cd ls cx hsz hw hl
  have hl : lv_has ls 2 [(0, .ref (ad 6 a0)), (1, .int a1)] := hl
  refine lv_aload_n cx.1 cx.2.1 dX6_pairAt_0 rfl (lv_at hl 0 rfl) ?_
  refine lv_iload_n cx.1 cx.2.1 dX6_pairAt_1 rfl (lv_at hl 1 rfl) ?_
  obtain ⟨p1, e_p1, h⟩ := md_ob h
  refine hp_callVi (As := [.int a1]) (rest := []) cx hw (kc_X6_at l D cA E _ ad _ hj oq sgq sgv hE n σ0 a0 a1 (show _ < 197 by omega) p1 e_p1) (cwV 1 cx.2.2.2.2.2.1 (cd_giV cm_407 cm_17 cm_18 cm_5 cm_19) rfl rfl rfl hdc_X6_at ⟨Nat.le_of_ble_eq_true rfl, Nat.le_of_ble_eq_true rfl⟩) (cd_atO hj (by decide) (show _ < 197 by omega)) rfl rfl hl.1 rfl (Nat.le_of_ble_eq_true rfl) dX6_pairAt_2 ⟨Nat.le_refl _, Nat.le_refl _⟩ (fun r u H locs hp hw => ?_)
  obtain ⟨rfl, ca, hj, rfl⟩ := hp
  refine lv_bipush (v := 8) cx.1 cx.2.1 dX6_pairAt_5 (by decide) ?_
  refine lv_ishl cx.1 cx.2.1 dX6_pairAt_7 ?_
  refine lv_aload_n cx.1 cx.2.1 dX6_pairAt_8 rfl (lv_at hl 0 rfl) ?_
  refine lv_iload_n cx.1 cx.2.1 dX6_pairAt_9 rfl (lv_at hl 1 rfl) ?_
  refine lv_iconst (v := 1) cx.1 cx.2.1 dX6_pairAt_10 (by decide) ?_
  refine lv_iadd cx.1 cx.2.1 dX6_pairAt_11 ?_
  obtain ⟨p2, e_p2, h⟩ := md_ob h
  refine hp_callVi (As := [.int (a1 + 1)]) (rest := [.int (p1.1 <<< (8 &&& 31))]) cx hw (kc_X6_at l D cA E _ ad _ hj oq sgq sgv hE n p1.2 a0 ((a1 + 1)) (show _ < 197 by omega) p2 e_p2) (cwV 1 cx.2.2.2.2.2.1 (cd_giV cm_407 cm_17 cm_18 cm_5 cm_19) rfl rfl rfl hdc_X6_at ⟨Nat.le_of_ble_eq_true rfl, Nat.le_of_ble_eq_true rfl⟩) (cd_atO hj (by decide) (show _ < 197 by omega)) rfl rfl hl.1 rfl (Nat.le_of_ble_eq_true rfl) dX6_pairAt_12 ⟨Nat.le_refl _, Nat.le_refl _⟩ (fun r u H locs hp hw => ?_)
  obtain ⟨rfl, ca, hj, rfl⟩ := hp
  refine lv_ior cx.1 cx.2.1 dX6_pairAt_15 ?_
  exact hp_iret cx hw (cd_ret hj h) dX6_pairAt_16
set_option maxHeartbeats 4000000 in
set_option maxRecDepth 100000 in
theorem kc_X7_placeNow (l : Launch) (D : va_G) (cA : Nat → ClassId) (E : hp_N) (sz : Nat) (ad : Nat → Nat → Nat) (ca0 : Nat → Nat) (hj : cd_inj ad ca0) (oq sgq sgv : Nat) (hE : cd_E E oq sgq sgv) (n : Nat) (σ0 : cd_S) (a0 : Nat) (hb_a0 : a0 < 8) (p : (Int32 × cd_S)) (h : f_X7_placeNow n σ0 a0 = some p) : Met l yX7_placeNow (Cond.code yX7_placeNow cX7_placeNow 1 (some .int) :: v_CLS) ({ frames := 1, cells := 0, slots := 0, locals := 20 }) (hp_Pc D vwCl (hp_Tl cA) E sz (cd_pic cA ad ca0 σ0) [.ref (ad 7 a0)]) (hp_Qi D vwCl (hp_Tl cA) sz (cd_pic cA ad ca0 σ0) (fun r u => r = p.1 ∧ ∃ ca1, cd_inj ad ca1 ∧ u = cd_pic cA ad ca1 p.2)) 0 0 (hp_A (cd_pic cA ad ca0 σ0) sz) := by
  refine hp_ofW (cc := cX7_placeNow) (maxL := 1) (ret := (some .int)) (by decide) rfl (Nat.le_of_ble_eq_true rfl) ?_
  intro pp ee ss mm bb mt cd ls cx hsz hw hl
  have hl : lv_has ls 1 [(0, .ref (ad 7 a0))] := hl
  refine lv_aload_n cx.1 cx.2.1 dX7_placeNow_0 rfl (lv_at hl 0 rfl) ?_
  obtain ⟨p1, e_p1, h⟩ := md_ob h
  refine hp_callVi (As := []) (rest := []) cx hw (kc_X7_framed l D cA E _ ad _ hj oq sgq sgv hE n σ0 a0 (show _ < 8 by omega) p1 e_p1) (cwV 0 cx.2.2.2.2.2.1 (cd_giV cm_91 cm_92 cm_93 cm_94 cm_95) rfl rfl rfl hdc_X7_framed ⟨Nat.le_of_ble_eq_true rfl, Nat.le_of_ble_eq_true rfl⟩) (cd_atO hj (by decide) (show _ < 8 by omega)) rfl rfl hl.1 rfl (Nat.le_of_ble_eq_true rfl) dX7_placeNow_1 ⟨Nat.le_refl _, Nat.le_refl _⟩ (fun r u H locs hp hw => ?_)
  obtain ⟨rfl, ca, hj, rfl⟩ := hp
  refine lv_if_eq (tgt := 21) cx.1 cx.2.1 dX7_placeNow_4 (by decide) (fun c4 => ?_) (fun c4 => ?_)
  · have h := md_ip c4 h
    refine lv_iconst (v := 0) cx.1 cx.2.1 dX7_placeNow_21 (by decide) ?_
    exact hp_iret cx hw (cd_ret hj h) dX7_placeNow_22
  · have h := md_in c4 h
    refine lv_aload_n cx.1 cx.2.1 dX7_placeNow_7 rfl (lv_at hl 0 rfl) ?_
    refine cd_gA (o := 7) (k := 1) (f := 225) hj cx hw hic7 rfl ⟨by decide, rfl, by decide, rfl⟩ rfl (show _ < 8 by omega) (List.mem_cons_of_mem _ cm_102) dX7_placeNow_8 ?_
    refine lv_aload_n cx.1 cx.2.1 dX7_placeNow_11 rfl (lv_at hl 0 rfl) ?_
    refine cd_gI (o := 7) (k := 8) (f := 232) hj cx hw hic7 rfl ⟨by decide, rfl, by decide, rfl⟩ rfl (show _ < 8 by omega) (List.mem_cons_of_mem _ cm_90) dX7_placeNow_12 ?_
    refine lv_iconst (v := 1) cx.1 cx.2.1 dX7_placeNow_15 (by decide) ?_
    refine lv_isub cx.1 cx.2.1 dX7_placeNow_16 ?_
    obtain ⟨v2, e_v2, h⟩ := md_ob h
    refine cd_lI (f := 225) hj cx hw (by decide) (show _ < 8 by omega) rfl e_v2 dX7_placeNow_17 ?_
    refine lv_goto (tgt := 22) cx.1 cx.2.1 dX7_placeNow_18 (by decide) ?_
    exact hp_iret cx hw (cd_ret hj h) dX7_placeNow_22
set_option maxHeartbeats 4000000 in
set_option maxRecDepth 100000 in
theorem kc_X7_unitNow (l : Launch) (D : va_G) (cA : Nat → ClassId) (E : hp_N) (sz : Nat) (ad : Nat → Nat → Nat) (ca0 : Nat → Nat) (hj : cd_inj ad ca0) (oq sgq sgv : Nat) (hE : cd_E E oq sgq sgv) (n : Nat) (σ0 : cd_S) (a0 : Nat) (hb_a0 : a0 < 8) (p : (Int32 × cd_S)) (h : f_X7_unitNow n σ0 a0 = some p) : Met l yX7_unitNow (Cond.code yX7_unitNow cX7_unitNow 1 (some .int) :: v_CLS) ({ frames := 1, cells := 0, slots := 0, locals := 20 }) (hp_Pc D vwCl (hp_Tl cA) E sz (cd_pic cA ad ca0 σ0) [.ref (ad 7 a0)]) (hp_Qi D vwCl (hp_Tl cA) sz (cd_pic cA ad ca0 σ0) (fun r u => r = p.1 ∧ ∃ ca1, cd_inj ad ca1 ∧ u = cd_pic cA ad ca1 p.2)) 0 0 (hp_A (cd_pic cA ad ca0 σ0) sz) := by
  refine hp_ofW (cc := cX7_unitNow) (maxL := 1) (ret := (some .int)) (by decide) rfl (Nat.le_of_ble_eq_true rfl) ?_
  intro pp ee ss mm bb mt cd ls cx hsz hw hl
  have hl : lv_has ls 1 [(0, .ref (ad 7 a0))] := hl
  refine lv_aload_n cx.1 cx.2.1 dX7_unitNow_0 rfl (lv_at hl 0 rfl) ?_
  obtain ⟨p1, e_p1, h⟩ := md_ob h
  refine hp_callVi (As := []) (rest := []) cx hw (kc_X7_framed l D cA E _ ad _ hj oq sgq sgv hE n σ0 a0 (show _ < 8 by omega) p1 e_p1) (cwV 0 cx.2.2.2.2.2.1 (cd_giV cm_91 cm_92 cm_93 cm_94 cm_95) rfl rfl rfl hdc_X7_framed ⟨Nat.le_of_ble_eq_true rfl, Nat.le_of_ble_eq_true rfl⟩) (cd_atO hj (by decide) (show _ < 8 by omega)) rfl rfl hl.1 rfl (Nat.le_of_ble_eq_true rfl) dX7_unitNow_1 ⟨Nat.le_refl _, Nat.le_refl _⟩ (fun r u H locs hp hw => ?_)
  obtain ⟨rfl, ca, hj, rfl⟩ := hp
  refine lv_if_eq (tgt := 21) cx.1 cx.2.1 dX7_unitNow_4 (by decide) (fun c4 => ?_) (fun c4 => ?_)
  · have h := md_ip c4 h
    refine lv_iconst (v := 0) cx.1 cx.2.1 dX7_unitNow_21 (by decide) ?_
    exact hp_iret cx hw (cd_ret hj h) dX7_unitNow_22
  · have h := md_in c4 h
    refine lv_aload_n cx.1 cx.2.1 dX7_unitNow_7 rfl (lv_at hl 0 rfl) ?_
    refine cd_gA (o := 7) (k := 0) (f := 224) hj cx hw hic7 rfl ⟨by decide, rfl, by decide, rfl⟩ rfl (show _ < 8 by omega) (List.mem_cons_of_mem _ cm_100) dX7_unitNow_8 ?_
    refine lv_aload_n cx.1 cx.2.1 dX7_unitNow_11 rfl (lv_at hl 0 rfl) ?_
    refine cd_gI (o := 7) (k := 8) (f := 232) hj cx hw hic7 rfl ⟨by decide, rfl, by decide, rfl⟩ rfl (show _ < 8 by omega) (List.mem_cons_of_mem _ cm_90) dX7_unitNow_12 ?_
    refine lv_iconst (v := 1) cx.1 cx.2.1 dX7_unitNow_15 (by decide) ?_
    refine lv_isub cx.1 cx.2.1 dX7_unitNow_16 ?_
    obtain ⟨v2, e_v2, h⟩ := md_ob h
    refine cd_lI (f := 224) hj cx hw (by decide) (show _ < 8 by omega) rfl e_v2 dX7_unitNow_17 ?_
    refine lv_goto (tgt := 22) cx.1 cx.2.1 dX7_unitNow_18 (by decide) ?_
    exact hp_iret cx hw (cd_ret hj h) dX7_unitNow_22
set_option maxHeartbeats 4000000 in
set_option maxRecDepth 100000 in
theorem kc_X1_step (l : Launch) (D : va_G) (cA : Nat → ClassId) (E : hp_N) (sz : Nat) (ad : Nat → Nat → Nat) (ca0 : Nat → Nat) (hj : cd_inj ad ca0) (oq sgq sgv : Nat) (hE : cd_E E oq sgq sgv) (n : Nat) (σ0 : cd_S) (b0 : cd_B) (a1 : Nat) (hb_a1 : a1 < 8) (p : (Int32 × cd_S × cd_B)) (h : f_X1_step n σ0 b0 a1 = some p) : (p.2.2.1 ≤ b0.1 ∧ p.2.2.2 ≤ b0.2) ∧ Met l yX1_step (Cond.code yX1_step cX1_step 7 (some .int) :: v_CLS) ({ frames := 7, cells := b0.1 - p.2.2.1, slots := b0.2 - p.2.2.2, locals := 185 }) (hp_Pc D vwCl (hp_Tl cA) E sz (cd_pic cA ad ca0 σ0) [.ref (ad 1 0), .ref (ad 7 a1)]) (hp_Qi D vwCl (hp_Tl cA) sz (cd_pic cA ad ca0 σ0) (fun r u => r = p.1 ∧ ∃ ca1, cd_inj ad ca1 ∧ u = cd_pic cA ad ca1 p.2.1)) (b0.1 - p.2.2.1) (b0.2 - p.2.2.2) (hp_A (cd_pic cA ad ca0 σ0) sz) := by
  obtain ⟨hm0, hn0, h⟩ := cd_cks h
  have hM0 : p.2.2.1 ≤ b0.1 ∧ p.2.2.2 ≤ b0.2 := ⟨hm0, hn0⟩
  refine ⟨hM0, ?_⟩
  refine hp_ofW (cc := cX1_step) (maxL := 7) (ret := (some .int)) (by decide) rfl (Nat.le_of_ble_eq_true rfl) ?_
  intro pp ee ss mm bb mt cd ls cx hsz hw hl
  have hl : lv_has ls 7 [(0, .ref (ad 1 0)), (1, .ref (ad 7 a1))] := hl
  refine W.widen (k := b0.1 - b0.1) (n := b0.2 - b0.2) (Nat.zero_le _) (Nat.zero_le _) ?_
  have J453 : ∀ (ca : Nat → Nat) (hj : cd_inj ad ca) (σ : cd_S) (b : cd_B) (t0 : Int32) (t1 : Int32) (H : Heap) (locs : List Loc) (ls : Array Slot), b.1 ≤ b0.1 → b.2 ≤ b0.2 → p.2.2.1 ≤ b.1 → p.2.2.2 ≤ b.2 → f_X1_step_J453 n a1 σ b t0 t1 = some p → hp_w D vwCl (hp_Tl cA) E (hp_A (cd_pic cA ad ca0 σ0) sz) ss H locs (cd_pic cA ad ca σ) → lv_has ls 7 [] → W pp l ee ({ frames := 7, cells := b0.1 - p.2.2.1, slots := b0.2 - p.2.2.2, locals := 185 }) ss mm [.ref (ad 1 0), .ref (ad 7 a1)].toArray bb mt cd H locs (b0.1 - b.1) (b0.2 - b.2) (MQ bb (hp_Qi D vwCl (hp_Tl cA) sz (cd_pic cA ad ca0 σ0) (fun r u => r = p.1 ∧ ∃ ca1, cd_inj ad ca1 ∧ u = cd_pic cA ad ca1 p.2.1)) [.ref (ad 1 0), .ref (ad 7 a1)].toArray ss (b0.1 - p.2.2.1) (b0.2 - p.2.2.2) (hp_A (cd_pic cA ad ca0 σ0) sz)) (F0 mm 453 ls [.int t0, .int t1, .ref (ad 7 a1)]) := by
    intro ca hj σ b t0 t1 H locs ls hb1 hb2 hf1 hf2 h hw hl
    obtain ⟨p1, e_p1, h⟩ := md_ob h
    refine hp_callSl (As := [.int t1, .int t0]) (rest := [.ref (ad 7 a1)]) cx hw (kc_X1_valueOf l D cA E _ ad _ hj oq sgq sgv hE n σ t1 t0 p1 e_p1) (cwS 2 cx.2.2.2.2.2.1 (cd_giS cm_154 cm_155 cm_130 cm_156) rfl rfl rfl hdc_X1_valueOf ⟨Nat.le_of_ble_eq_true rfl, Nat.le_of_ble_eq_true rfl⟩) rfl hl.1 rfl (Nat.le_of_ble_eq_true rfl) dX1_step_453 ⟨by (try dsimp only); omega, by (try dsimp only); omega⟩ (fun r u H locs hp hw => ?_)
    obtain ⟨rfl, ca, hj, rfl⟩ := hp
    obtain ⟨p2, e_p2, h⟩ := md_ob h
    obtain ⟨hm3, hn3, h⟩ := cd_cks h
    have hM3 : p.2.2.1 ≤ p2.2.2.1 ∧ p.2.2.2 ≤ p2.2.2.2 := ⟨hm3, hn3⟩
    have hle2 := (kc_X1_push l D cA E sz ad _ hj oq sgq sgv hE n p1.2 b a1 (p1.1) (show _ < 8 by omega) p2 e_p2).1
    refine hp_callSi (As := [.ref (ad 7 a1), .long p1.1]) (rest := []) cx hw ((kc_X1_push l D cA E _ ad _ hj oq sgq sgv hE n p1.2 b a1 (p1.1) (show _ < 8 by omega) p2 e_p2).2) (cwS 2 cx.2.2.2.2.2.1 (cd_giS cm_157 cm_158 cm_130 cm_159) rfl rfl rfl hdc_X1_push ⟨Nat.le_of_ble_eq_true rfl, Nat.le_of_ble_eq_true rfl⟩) rfl hl.1 rfl (Nat.le_of_ble_eq_true rfl) dX1_step_456 ⟨by (try dsimp only); omega, by (try dsimp only); omega⟩ (fun r u H locs hp hw => ?_)
    obtain ⟨rfl, ca, hj, rfl⟩ := hp
    refine W.widen (k := b0.1 - p2.2.2.1) (n := b0.2 - p2.2.2.2) (by omega) (by omega) ?_
    exact hp_iret cx hw (cd_retb hj h) dX1_step_459 (cd_le1 h) (cd_le2 h)
  have J341 : ∀ (ca : Nat → Nat) (hj : cd_inj ad ca) (σ : cd_S) (b : cd_B) (l4 : Int32) (H : Heap) (locs : List Loc) (ls : Array Slot), b.1 ≤ b0.1 → b.2 ≤ b0.2 → p.2.2.1 ≤ b.1 → p.2.2.2 ≤ b.2 → f_X1_step_J341 n a1 σ b l4 = some p → hp_w D vwCl (hp_Tl cA) E (hp_A (cd_pic cA ad ca0 σ0) sz) ss H locs (cd_pic cA ad ca σ) → lv_has ls 7 [(0, .ref (ad 1 0)), (1, .ref (ad 7 a1)), (4, .int l4)] → W pp l ee ({ frames := 7, cells := b0.1 - p.2.2.1, slots := b0.2 - p.2.2.2, locals := 185 }) ss mm [.ref (ad 1 0), .ref (ad 7 a1)].toArray bb mt cd H locs (b0.1 - b.1) (b0.2 - b.2) (MQ bb (hp_Qi D vwCl (hp_Tl cA) sz (cd_pic cA ad ca0 σ0) (fun r u => r = p.1 ∧ ∃ ca1, cd_inj ad ca1 ∧ u = cd_pic cA ad ca1 p.2.1)) [.ref (ad 1 0), .ref (ad 7 a1)].toArray ss (b0.1 - p.2.2.1) (b0.2 - p.2.2.2) (hp_A (cd_pic cA ad ca0 σ0) sz)) (F0 mm 341 ls []) := by
    intro ca hj σ b l4 H locs ls hb1 hb2 hf1 hf2 h hw hl
    refine lv_aload_n cx.1 cx.2.1 dX1_step_341 rfl (lv_at hl 0 rfl) ?_
    refine lv_aload_n cx.1 cx.2.1 dX1_step_342 rfl (lv_at hl 1 rfl) ?_
    refine lv_iload cx.1 cx.2.1 dX1_step_343 (lv_at hl 2 rfl) ?_
    obtain ⟨p4, e_p4, h⟩ := md_ob h
    obtain ⟨hm5, hn5, h⟩ := cd_cks h
    have hM5 : p.2.2.1 ≤ p4.2.2.1 ∧ p.2.2.2 ≤ p4.2.2.2 := ⟨hm5, hn5⟩
    have hle4 := (kc_X1_calculate l D cA E sz ad _ hj oq sgq sgv hE n σ b a1 l4 (show _ < 8 by omega) p4 e_p4).1
    refine hp_callVi (As := [.ref (ad 7 a1), .int l4]) (rest := []) cx hw ((kc_X1_calculate l D cA E _ ad _ hj oq sgq sgv hE n σ b a1 l4 (show _ < 8 by omega) p4 e_p4).2) (cwV 2 cx.2.2.2.2.2.1 (cd_giV cm_494 cm_495 cm_496 cm_130 cm_497) rfl rfl rfl hdc_X1_calculate ⟨Nat.le_of_ble_eq_true rfl, Nat.le_of_ble_eq_true rfl⟩) (cd_atO hj (by decide) (by decide)) rfl rfl hl.1 rfl (Nat.le_of_ble_eq_true rfl) dX1_step_345 ⟨by (try dsimp only); omega, by (try dsimp only); omega⟩ (fun r u H locs hp hw => ?_)
    obtain ⟨rfl, ca, hj, rfl⟩ := hp
    refine W.widen (k := b0.1 - p4.2.2.1) (n := b0.2 - p4.2.2.2) (by omega) (by omega) ?_
    exact hp_iret cx hw (cd_retb hj h) dX1_step_348 (cd_le1 h) (cd_le2 h)
  have J69 : ∀ (ca : Nat → Nat) (hj : cd_inj ad ca) (σ : cd_S) (b : cd_B) (l2 : Nat) (l3 : Int32) (l4 : Int32) (l5 : Int32) (t0 : Int32) (H : Heap) (locs : List Loc) (ls : Array Slot), l2 < 197 → b.1 ≤ b0.1 → b.2 ≤ b0.2 → p.2.2.1 ≤ b.1 → p.2.2.2 ≤ b.2 → f_X1_step_J69 n a1 σ b l2 l3 l4 l5 t0 = some p → hp_w D vwCl (hp_Tl cA) E (hp_A (cd_pic cA ad ca0 σ0) sz) ss H locs (cd_pic cA ad ca σ) → lv_has ls 7 [(0, .ref (ad 1 0)), (1, .ref (ad 7 a1)), (2, .ref (ad 6 l2)), (3, .int l3), (4, .int l4), (5, .int l5)] → W pp l ee ({ frames := 7, cells := b0.1 - p.2.2.1, slots := b0.2 - p.2.2.2, locals := 185 }) ss mm [.ref (ad 1 0), .ref (ad 7 a1)].toArray bb mt cd H locs (b0.1 - b.1) (b0.2 - b.2) (MQ bb (hp_Qi D vwCl (hp_Tl cA) sz (cd_pic cA ad ca0 σ0) (fun r u => r = p.1 ∧ ∃ ca1, cd_inj ad ca1 ∧ u = cd_pic cA ad ca1 p.2.1)) [.ref (ad 1 0), .ref (ad 7 a1)].toArray ss (b0.1 - p.2.2.1) (b0.2 - p.2.2.2) (hp_A (cd_pic cA ad ca0 σ0) sz)) (F0 mm 69 ls [.int t0]) := by
    intro ca hj σ b l2 l3 l4 l5 t0 H locs ls hb_l2 hb1 hb2 hf1 hf2 h hw hl
    refine lv_istore (lv' := [(6, .int t0), (0, .ref (ad 1 0)), (1, .ref (ad 7 a1)), (2, .ref (ad 6 l2)), (3, .int l3), (4, .int l4), (5, .int l5)]) cx.1 cx.2.1 dX1_step_69 hl (by decide) rfl (fun ls hl => ?_)
    refine lv_aload_n cx.1 cx.2.1 dX1_step_71 rfl (lv_at hl 2 rfl) ?_
    refine lv_iload_n cx.1 cx.2.1 dX1_step_72 rfl (lv_at hl 4 rfl) ?_
    refine lv_iconst (v := 1) cx.1 cx.2.1 dX1_step_73 (by decide) ?_
    refine lv_iadd cx.1 cx.2.1 dX1_step_74 ?_
    refine lv_iconst (v := 2) cx.1 cx.2.1 dX1_step_75 (by decide) ?_
    refine lv_iload cx.1 cx.2.1 dX1_step_76 (lv_at hl 6 rfl) ?_
    refine lv_imul cx.1 cx.2.1 dX1_step_78 ?_
    refine lv_iadd cx.1 cx.2.1 dX1_step_79 ?_
    obtain ⟨p6, e_p6, h⟩ := md_ob h
    refine hp_callVv (As := [.int ((l3 + 1) + ((2 : Int32) * l5))]) (rest := []) cx hw (kc_X7_goTo l D cA E _ ad _ hj oq sgq sgv hE n σ a1 (((l3 + 1) + ((2 : Int32) * l5))) (show _ < 8 by omega) p6 e_p6) (cwV 1 cx.2.2.2.2.2.1 (cd_giV cm_255 cm_256 cm_257 cm_94 cm_258) rfl rfl rfl hdc_X7_goTo ⟨Nat.le_of_ble_eq_true rfl, Nat.le_of_ble_eq_true rfl⟩) (cd_atO hj (by decide) (show _ < 8 by omega)) rfl rfl hl.1 rfl (Nat.le_of_ble_eq_true rfl) dX1_step_80 ⟨by (try dsimp only); omega, by (try dsimp only); omega⟩ (fun u H locs hp hw => ?_)
    obtain ⟨ca, hj, rfl⟩ := hp
    refine lv_iload cx.1 cx.2.1 dX1_step_83 (lv_at hl 5 rfl) ?_
    by_cases c85_0 : l4 = 0
    · refine lv_tableIn (off := 127) (tgt := 212) cx.1 cx.2.1 dX1_step_85 (by rw [c85_0]; decide) (by rw [c85_0]; decide) (by rw [c85_0]; decide) (by decide) ?_
      have h := md_ip c85_0 h
      refine lv_aload_n cx.1 cx.2.1 dX1_step_212 rfl (lv_at hl 2 rfl) ?_
      refine lv_iconst (v := 0) cx.1 cx.2.1 dX1_step_213 (by decide) ?_
      refine lv_aload_n cx.1 cx.2.1 dX1_step_214 rfl (lv_at hl 1 rfl) ?_
      refine cd_gO (o2 := 2) (e2 := 0) (o := 1) (k := 0) (f := 32) hj cx hw hic1 rfl ⟨by decide, rfl, by decide, rfl⟩ rfl (by decide) ⟨rfl, rfl⟩ (List.mem_cons_of_mem _ cm_179) dX1_step_215 ?_
      refine lv_iload cx.1 cx.2.1 dX1_step_218 (lv_at hl 0 rfl) ?_
      obtain ⟨p7, e_p7, h⟩ := md_ob h
      refine hp_callVi (As := [.int t0]) (rest := [.int 0, .ref (ad 7 a1)]) cx hw (kc_X2_numberAt l D cA E _ ad _ hj oq sgq sgv hE n p6.2 t0 p7 e_p7) (cwV 1 cx.2.2.2.2.2.1 (cd_giV cm_422 cm_423 cm_424 cm_167 cm_425) rfl rfl rfl hdc_X2_numberAt ⟨Nat.le_of_ble_eq_true rfl, Nat.le_of_ble_eq_true rfl⟩) (cd_atO hj (by decide) (by decide)) rfl rfl hl.1 rfl (Nat.le_of_ble_eq_true rfl) dX1_step_220 ⟨by (try dsimp only); omega, by (try dsimp only); omega⟩ (fun r u H locs hp hw => ?_)
      obtain ⟨rfl, ca, hj, rfl⟩ := hp
      obtain ⟨p8, e_p8, h⟩ := md_ob h
      refine hp_callSl (As := [.int 0, .int p7.1]) (rest := [.ref (ad 7 a1)]) cx hw (kc_X1_valueOf l D cA E _ ad _ hj oq sgq sgv hE n p7.2 (0 : Int32) (p7.1) p8 e_p8) (cwS 2 cx.2.2.2.2.2.1 (cd_giS cm_154 cm_155 cm_130 cm_156) rfl rfl rfl hdc_X1_valueOf ⟨Nat.le_of_ble_eq_true rfl, Nat.le_of_ble_eq_true rfl⟩) rfl hl.1 rfl (Nat.le_of_ble_eq_true rfl) dX1_step_223 ⟨by (try dsimp only); omega, by (try dsimp only); omega⟩ (fun r u H locs hp hw => ?_)
      obtain ⟨rfl, ca, hj, rfl⟩ := hp
      obtain ⟨p9, e_p9, h⟩ := md_ob h
      obtain ⟨hm10, hn10, h⟩ := cd_cks h
      have hM10 : p.2.2.1 ≤ p9.2.2.1 ∧ p.2.2.2 ≤ p9.2.2.2 := ⟨hm10, hn10⟩
      have hle9 := (kc_X1_push l D cA E sz ad _ hj oq sgq sgv hE n p8.2 b a1 (p8.1) (show _ < 8 by omega) p9 e_p9).1
      refine hp_callSi (As := [.ref (ad 7 a1), .long p8.1]) (rest := []) cx hw ((kc_X1_push l D cA E _ ad _ hj oq sgq sgv hE n p8.2 b a1 (p8.1) (show _ < 8 by omega) p9 e_p9).2) (cwS 2 cx.2.2.2.2.2.1 (cd_giS cm_157 cm_158 cm_130 cm_159) rfl rfl rfl hdc_X1_push ⟨Nat.le_of_ble_eq_true rfl, Nat.le_of_ble_eq_true rfl⟩) rfl hl.1 rfl (Nat.le_of_ble_eq_true rfl) dX1_step_226 ⟨by (try dsimp only); omega, by (try dsimp only); omega⟩ (fun r u H locs hp hw => ?_)
      obtain ⟨rfl, ca, hj, rfl⟩ := hp
      refine W.widen (k := b0.1 - p9.2.2.1) (n := b0.2 - p9.2.2.2) (by omega) (by omega) ?_
      exact hp_iret cx hw (cd_retb hj h) dX1_step_229 (cd_le1 h) (cd_le2 h)
    have h := md_in c85_0 h
    by_cases c85_1 : l4 = 1
    · refine lv_tableIn (off := 145) (tgt := 230) cx.1 cx.2.1 dX1_step_85 (by rw [c85_1]; decide) (by rw [c85_1]; decide) (by rw [c85_1]; decide) (by decide) ?_
      have h := md_ip c85_1 h
      refine lv_aload_n cx.1 cx.2.1 dX1_step_230 rfl (lv_at hl 2 rfl) ?_
      refine lv_ldc2 cx.1 cx.2.1 cx.2.2.2.2.1 (cx.2.2.2.2.2.1 _ (List.mem_cons_of_mem _ cm_184)) dX1_step_231 ?_
      obtain ⟨p11, e_p11, h⟩ := md_ob h
      obtain ⟨hm12, hn12, h⟩ := cd_cks h
      have hM12 : p.2.2.1 ≤ p11.2.2.1 ∧ p.2.2.2 ≤ p11.2.2.2 := ⟨hm12, hn12⟩
      have hle11 := (kc_X1_push l D cA E sz ad _ hj oq sgq sgv hE n p6.2 b a1 (4294967296 : Int64) (show _ < 8 by omega) p11 e_p11).1
      refine hp_callSi (As := [.ref (ad 7 a1), .long 4294967296]) (rest := []) cx hw ((kc_X1_push l D cA E _ ad _ hj oq sgq sgv hE n p6.2 b a1 (4294967296 : Int64) (show _ < 8 by omega) p11 e_p11).2) (cwS 2 cx.2.2.2.2.2.1 (cd_giS cm_157 cm_158 cm_130 cm_159) rfl rfl rfl hdc_X1_push ⟨Nat.le_of_ble_eq_true rfl, Nat.le_of_ble_eq_true rfl⟩) rfl hl.1 rfl (Nat.le_of_ble_eq_true rfl) dX1_step_234 ⟨by (try dsimp only); omega, by (try dsimp only); omega⟩ (fun r u H locs hp hw => ?_)
      obtain ⟨rfl, ca, hj, rfl⟩ := hp
      refine W.widen (k := b0.1 - p11.2.2.1) (n := b0.2 - p11.2.2.2) (by omega) (by omega) ?_
      exact hp_iret cx hw (cd_retb hj h) dX1_step_237 (cd_le1 h) (cd_le2 h)
    have h := md_in c85_1 h
    by_cases c85_2 : l4 = 2
    · refine lv_tableIn (off := 153) (tgt := 238) cx.1 cx.2.1 dX1_step_85 (by rw [c85_2]; decide) (by rw [c85_2]; decide) (by rw [c85_2]; decide) (by decide) ?_
      have h := md_ip c85_2 h
      refine lv_aload_n cx.1 cx.2.1 dX1_step_238 rfl (lv_at hl 2 rfl) ?_
      refine lv_aload_n cx.1 cx.2.1 dX1_step_239 rfl (lv_at hl 2 rfl) ?_
      refine cd_gO (o2 := 6) (e2 := (9 + 1 * a1)) (o := 7) (k := 6) (f := 230) hj cx hw hic7 rfl ⟨by decide, rfl, by decide, rfl⟩ rfl (show _ < 8 by omega) ⟨rfl, rfl⟩ (List.mem_cons_of_mem _ cm_89) dX1_step_240 ?_
      refine lv_aload_n cx.1 cx.2.1 dX1_step_243 rfl (lv_at hl 2 rfl) ?_
      obtain ⟨p13, e_p13, h⟩ := md_ob h
      refine hp_callVi (As := []) (rest := [.ref (ad 6 (9 + 1 * a1)), .ref (ad 7 a1)]) cx hw (kc_X7_baseNow l D cA E _ ad _ hj oq sgq sgv hE n p6.2 a1 (show _ < 8 by omega) p13 e_p13) (cwV 0 cx.2.2.2.2.2.1 (cd_giV cm_375 cm_236 cm_237 cm_94 cm_238) rfl rfl rfl hdc_X7_baseNow ⟨Nat.le_of_ble_eq_true rfl, Nat.le_of_ble_eq_true rfl⟩) (cd_atO hj (by decide) (show _ < 8 by omega)) rfl rfl hl.1 rfl (Nat.le_of_ble_eq_true rfl) dX1_step_244 ⟨by (try dsimp only); omega, by (try dsimp only); omega⟩ (fun r u H locs hp hw => ?_)
      obtain ⟨rfl, ca, hj, rfl⟩ := hp
      refine lv_iload cx.1 cx.2.1 dX1_step_247 (lv_at hl 0 rfl) ?_
      refine lv_iadd cx.1 cx.2.1 dX1_step_249 ?_
      obtain ⟨p14, e_p14, h⟩ := md_ob h
      refine hp_callVl (As := [.int (p13.1 + t0)]) (rest := [.ref (ad 7 a1)]) cx hw (kc_X6_get l D cA E _ ad _ hj oq sgq sgv hE n p13.2 ((9 + 1 * a1)) ((p13.1 + t0)) (show _ < 197 by omega) p14 e_p14) (cwV 1 cx.2.2.2.2.2.1 (cd_giV cm_273 cm_240 cm_241 cm_5 cm_242) rfl rfl rfl hdc_X6_get ⟨Nat.le_of_ble_eq_true rfl, Nat.le_of_ble_eq_true rfl⟩) (cd_atO hj (by decide) (show _ < 197 by omega)) rfl rfl hl.1 rfl (Nat.le_of_ble_eq_true rfl) dX1_step_250 ⟨by (try dsimp only); omega, by (try dsimp only); omega⟩ (fun r u H locs hp hw => ?_)
      obtain ⟨rfl, ca, hj, rfl⟩ := hp
      obtain ⟨p15, e_p15, h⟩ := md_ob h
      obtain ⟨hm16, hn16, h⟩ := cd_cks h
      have hM16 : p.2.2.1 ≤ p15.2.2.1 ∧ p.2.2.2 ≤ p15.2.2.2 := ⟨hm16, hn16⟩
      have hle15 := (kc_X1_push l D cA E sz ad _ hj oq sgq sgv hE n p14.2 b a1 (p14.1) (show _ < 8 by omega) p15 e_p15).1
      refine hp_callSi (As := [.ref (ad 7 a1), .long p14.1]) (rest := []) cx hw ((kc_X1_push l D cA E _ ad _ hj oq sgq sgv hE n p14.2 b a1 (p14.1) (show _ < 8 by omega) p15 e_p15).2) (cwS 2 cx.2.2.2.2.2.1 (cd_giS cm_157 cm_158 cm_130 cm_159) rfl rfl rfl hdc_X1_push ⟨Nat.le_of_ble_eq_true rfl, Nat.le_of_ble_eq_true rfl⟩) rfl hl.1 rfl (Nat.le_of_ble_eq_true rfl) dX1_step_253 ⟨by (try dsimp only); omega, by (try dsimp only); omega⟩ (fun r u H locs hp hw => ?_)
      obtain ⟨rfl, ca, hj, rfl⟩ := hp
      refine W.widen (k := b0.1 - p15.2.2.1) (n := b0.2 - p15.2.2.2) (by omega) (by omega) ?_
      exact hp_iret cx hw (cd_retb hj h) dX1_step_256 (cd_le1 h) (cd_le2 h)
    have h := md_in c85_2 h
    by_cases c85_3 : l4 = 3
    · refine lv_tableIn (off := 172) (tgt := 257) cx.1 cx.2.1 dX1_step_85 (by rw [c85_3]; decide) (by rw [c85_3]; decide) (by rw [c85_3]; decide) (by decide) ?_
      have h := md_ip c85_3 h
      refine lv_aload_n cx.1 cx.2.1 dX1_step_257 rfl (lv_at hl 2 rfl) ?_
      refine lv_iload cx.1 cx.2.1 dX1_step_258 (lv_at hl 0 rfl) ?_
      obtain ⟨p17, e_p17, h⟩ := md_ob h
      refine hp_callSi (As := [.ref (ad 7 a1), .int t0]) (rest := []) cx hw (kc_X1_put l D cA E _ ad _ hj oq sgq sgv hE n p6.2 a1 t0 (show _ < 8 by omega) p17 e_p17) (cwS 2 cx.2.2.2.2.2.1 (cd_giS cm_426 cm_427 cm_130 cm_428) rfl rfl rfl hdc_X1_put ⟨Nat.le_of_ble_eq_true rfl, Nat.le_of_ble_eq_true rfl⟩) rfl hl.1 rfl (Nat.le_of_ble_eq_true rfl) dX1_step_260 ⟨by (try dsimp only); omega, by (try dsimp only); omega⟩ (fun r u H locs hp hw => ?_)
      obtain ⟨rfl, ca, hj, rfl⟩ := hp
      exact hp_iret cx hw (cd_retb hj h) dX1_step_263 (cd_le1 h) (cd_le2 h)
    have h := md_in c85_3 h
    by_cases c85_4 : l4 = 4
    · refine lv_tableIn (off := 179) (tgt := 264) cx.1 cx.2.1 dX1_step_85 (by rw [c85_4]; decide) (by rw [c85_4]; decide) (by rw [c85_4]; decide) (by decide) ?_
      have h := md_ip c85_4 h
      refine lv_aload_n cx.1 cx.2.1 dX1_step_264 rfl (lv_at hl 1 rfl) ?_
      refine lv_aload_n cx.1 cx.2.1 dX1_step_265 rfl (lv_at hl 2 rfl) ?_
      refine lv_iload cx.1 cx.2.1 dX1_step_266 (lv_at hl 0 rfl) ?_
      obtain ⟨p18, e_p18, h⟩ := md_ob h
      obtain ⟨hm19, hn19, h⟩ := cd_cks h
      have hM19 : p.2.2.1 ≤ p18.2.2.1 ∧ p.2.2.2 ≤ p18.2.2.2 := ⟨hm19, hn19⟩
      have hle18 := (kc_X1_makeObject l D cA E sz ad _ hj oq sgq sgv hE n p6.2 b a1 t0 (show _ < 8 by omega) p18 e_p18).1
      refine hp_callVi (As := [.ref (ad 7 a1), .int t0]) (rest := []) cx hw ((kc_X1_makeObject l D cA E _ ad _ hj oq sgq sgv hE n p6.2 b a1 t0 (show _ < 8 by omega) p18 e_p18).2) (cwV 2 cx.2.2.2.2.2.1 (cd_giV cm_207 cm_208 cm_209 cm_130 cm_210) rfl rfl rfl hdc_X1_makeObject ⟨Nat.le_of_ble_eq_true rfl, Nat.le_of_ble_eq_true rfl⟩) (cd_atO hj (by decide) (by decide)) rfl rfl hl.1 rfl (Nat.le_of_ble_eq_true rfl) dX1_step_268 ⟨by (try dsimp only); omega, by (try dsimp only); omega⟩ (fun r u H locs hp hw => ?_)
      obtain ⟨rfl, ca, hj, rfl⟩ := hp
      refine W.widen (k := b0.1 - p18.2.2.1) (n := b0.2 - p18.2.2.2) (by omega) (by omega) ?_
      exact hp_iret cx hw (cd_retb hj h) dX1_step_271 (cd_le1 h) (cd_le2 h)
    have h := md_in c85_4 h
    by_cases c85_5 : l4 = 5
    · refine lv_tableIn (off := 187) (tgt := 272) cx.1 cx.2.1 dX1_step_85 (by rw [c85_5]; decide) (by rw [c85_5]; decide) (by rw [c85_5]; decide) (by decide) ?_
      have h := md_ip c85_5 h
      refine lv_aload_n cx.1 cx.2.1 dX1_step_272 rfl (lv_at hl 1 rfl) ?_
      refine lv_aload_n cx.1 cx.2.1 dX1_step_273 rfl (lv_at hl 2 rfl) ?_
      refine lv_iload cx.1 cx.2.1 dX1_step_274 (lv_at hl 0 rfl) ?_
      obtain ⟨p20, e_p20, h⟩ := md_ob h
      obtain ⟨hm21, hn21, h⟩ := cd_cks h
      have hM21 : p.2.2.1 ≤ p20.2.2.1 ∧ p.2.2.2 ≤ p20.2.2.2 := ⟨hm21, hn21⟩
      have hle20 := (kc_X1_readField l D cA E sz ad _ hj oq sgq sgv hE n p6.2 b a1 t0 (show _ < 8 by omega) p20 e_p20).1
      refine hp_callVi (As := [.ref (ad 7 a1), .int t0]) (rest := []) cx hw ((kc_X1_readField l D cA E _ ad _ hj oq sgq sgv hE n p6.2 b a1 t0 (show _ < 8 by omega) p20 e_p20).2) (cwV 2 cx.2.2.2.2.2.1 (cd_giV cm_429 cm_430 cm_431 cm_130 cm_432) rfl rfl rfl hdc_X1_readField ⟨Nat.le_of_ble_eq_true rfl, Nat.le_of_ble_eq_true rfl⟩) (cd_atO hj (by decide) (by decide)) rfl rfl hl.1 rfl (Nat.le_of_ble_eq_true rfl) dX1_step_276 ⟨by (try dsimp only); omega, by (try dsimp only); omega⟩ (fun r u H locs hp hw => ?_)
      obtain ⟨rfl, ca, hj, rfl⟩ := hp
      refine W.widen (k := b0.1 - p20.2.2.1) (n := b0.2 - p20.2.2.2) (by omega) (by omega) ?_
      exact hp_iret cx hw (cd_retb hj h) dX1_step_279 (cd_le1 h) (cd_le2 h)
    have h := md_in c85_5 h
    by_cases c85_6 : l4 = 6
    · refine lv_tableIn (off := 195) (tgt := 280) cx.1 cx.2.1 dX1_step_85 (by rw [c85_6]; decide) (by rw [c85_6]; decide) (by rw [c85_6]; decide) (by decide) ?_
      have h := md_ip c85_6 h
      refine lv_aload_n cx.1 cx.2.1 dX1_step_280 rfl (lv_at hl 1 rfl) ?_
      refine lv_aload_n cx.1 cx.2.1 dX1_step_281 rfl (lv_at hl 2 rfl) ?_
      refine lv_iload cx.1 cx.2.1 dX1_step_282 (lv_at hl 0 rfl) ?_
      obtain ⟨p22, e_p22, h⟩ := md_ob h
      obtain ⟨hm23, hn23, h⟩ := cd_cks h
      have hM23 : p.2.2.1 ≤ p22.2.2.1 ∧ p.2.2.2 ≤ p22.2.2.2 := ⟨hm23, hn23⟩
      have hle22 := (kc_X1_writeField l D cA E sz ad _ hj oq sgq sgv hE n p6.2 b a1 t0 (show _ < 8 by omega) p22 e_p22).1
      refine hp_callVi (As := [.ref (ad 7 a1), .int t0]) (rest := []) cx hw ((kc_X1_writeField l D cA E _ ad _ hj oq sgq sgv hE n p6.2 b a1 t0 (show _ < 8 by omega) p22 e_p22).2) (cwV 2 cx.2.2.2.2.2.1 (cd_giV cm_433 cm_434 cm_435 cm_130 cm_436) rfl rfl rfl hdc_X1_writeField ⟨Nat.le_of_ble_eq_true rfl, Nat.le_of_ble_eq_true rfl⟩) (cd_atO hj (by decide) (by decide)) rfl rfl hl.1 rfl (Nat.le_of_ble_eq_true rfl) dX1_step_284 ⟨by (try dsimp only); omega, by (try dsimp only); omega⟩ (fun r u H locs hp hw => ?_)
      obtain ⟨rfl, ca, hj, rfl⟩ := hp
      refine W.widen (k := b0.1 - p22.2.2.1) (n := b0.2 - p22.2.2.2) (by omega) (by omega) ?_
      exact hp_iret cx hw (cd_retb hj h) dX1_step_287 (cd_le1 h) (cd_le2 h)
    have h := md_in c85_6 h
    by_cases c85_7 : l4 = 7
    · refine lv_tableIn (off := 203) (tgt := 288) cx.1 cx.2.1 dX1_step_85 (by rw [c85_7]; decide) (by rw [c85_7]; decide) (by rw [c85_7]; decide) (by decide) ?_
      have h := md_ip c85_7 h
      refine lv_aload_n cx.1 cx.2.1 dX1_step_288 rfl (lv_at hl 1 rfl) ?_
      refine lv_aload_n cx.1 cx.2.1 dX1_step_289 rfl (lv_at hl 2 rfl) ?_
      refine lv_iload cx.1 cx.2.1 dX1_step_290 (lv_at hl 0 rfl) ?_
      refine lv_aload_n cx.1 cx.2.1 dX1_step_292 rfl (lv_at hl 3 rfl) ?_
      refine lv_iload_n cx.1 cx.2.1 dX1_step_293 rfl (lv_at hl 4 rfl) ?_
      refine lv_iconst (v := 3) cx.1 cx.2.1 dX1_step_294 (by decide) ?_
      refine lv_iadd cx.1 cx.2.1 dX1_step_295 ?_
      obtain ⟨p24, e_p24, h⟩ := md_ob h
      refine hp_callVi (As := [.int (l3 + 3)]) (rest := [.int t0, .ref (ad 7 a1), .ref (ad 1 0)]) cx hw (kc_X6_pairAt l D cA E _ ad _ hj oq sgq sgv hE n p6.2 l2 ((l3 + 3)) (show _ < 197 by omega) p24 e_p24) (cwV 1 cx.2.2.2.2.2.1 (cd_giV cm_418 cm_419 cm_420 cm_5 cm_421) rfl rfl rfl hdc_X6_pairAt ⟨Nat.le_of_ble_eq_true rfl, Nat.le_of_ble_eq_true rfl⟩) (cd_atO hj (by decide) (show _ < 197 by omega)) rfl rfl hl.1 rfl (Nat.le_of_ble_eq_true rfl) dX1_step_296 ⟨by (try dsimp only); omega, by (try dsimp only); omega⟩ (fun r u H locs hp hw => ?_)
      obtain ⟨rfl, ca, hj, rfl⟩ := hp
      obtain ⟨p25, e_p25, h⟩ := md_ob h
      refine hp_callVi (As := [.ref (ad 7 a1), .int t0, .int p24.1]) (rest := []) cx hw (kc_X1_send l D cA E _ ad _ hj oq sgq sgv hE n p24.2 a1 t0 (p24.1) (show _ < 8 by omega) p25 e_p25) (cwV 3 cx.2.2.2.2.2.1 (cd_giV cm_437 cm_438 cm_439 cm_130 cm_440) rfl rfl rfl hdc_X1_send ⟨Nat.le_of_ble_eq_true rfl, Nat.le_of_ble_eq_true rfl⟩) (cd_atO hj (by decide) (by decide)) rfl rfl hl.1 rfl (Nat.le_of_ble_eq_true rfl) dX1_step_299 ⟨by (try dsimp only); omega, by (try dsimp only); omega⟩ (fun r u H locs hp hw => ?_)
      obtain ⟨rfl, ca, hj, rfl⟩ := hp
      exact hp_iret cx hw (cd_retb hj h) dX1_step_302 (cd_le1 h) (cd_le2 h)
    have h := md_in c85_7 h
    by_cases c85_8 : l4 = 8
    · refine lv_tableIn (off := 218) (tgt := 303) cx.1 cx.2.1 dX1_step_85 (by rw [c85_8]; decide) (by rw [c85_8]; decide) (by rw [c85_8]; decide) (by decide) ?_
      have h := md_ip c85_8 h
      refine lv_aload_n cx.1 cx.2.1 dX1_step_303 rfl (lv_at hl 1 rfl) ?_
      refine lv_aload_n cx.1 cx.2.1 dX1_step_304 rfl (lv_at hl 2 rfl) ?_
      refine lv_iload cx.1 cx.2.1 dX1_step_305 (lv_at hl 0 rfl) ?_
      obtain ⟨p26, e_p26, h⟩ := md_ob h
      obtain ⟨hm27, hn27, h⟩ := cd_cks h
      have hM27 : p.2.2.1 ≤ p26.2.2.1 ∧ p.2.2.2 ≤ p26.2.2.2 := ⟨hm27, hn27⟩
      have hle26 := (kc_X1_apply l D cA E sz ad _ hj oq sgq sgv hE n p6.2 b a1 t0 (show _ < 8 by omega) p26 e_p26).1
      refine hp_callVi (As := [.ref (ad 7 a1), .int t0]) (rest := []) cx hw ((kc_X1_apply l D cA E _ ad _ hj oq sgq sgv hE n p6.2 b a1 t0 (show _ < 8 by omega) p26 e_p26).2) (cwV 2 cx.2.2.2.2.2.1 (cd_giV cm_441 cm_442 cm_443 cm_130 cm_444) rfl rfl rfl hdc_X1_apply ⟨Nat.le_of_ble_eq_true rfl, Nat.le_of_ble_eq_true rfl⟩) (cd_atO hj (by decide) (by decide)) rfl rfl hl.1 rfl (Nat.le_of_ble_eq_true rfl) dX1_step_307 ⟨by (try dsimp only); omega, by (try dsimp only); omega⟩ (fun r u H locs hp hw => ?_)
      obtain ⟨rfl, ca, hj, rfl⟩ := hp
      refine W.widen (k := b0.1 - p26.2.2.1) (n := b0.2 - p26.2.2.2) (by omega) (by omega) ?_
      exact hp_iret cx hw (cd_retb hj h) dX1_step_310 (cd_le1 h) (cd_le2 h)
    have h := md_in c85_8 h
    by_cases c85_9 : l4 = 9
    · refine lv_tableIn (off := 226) (tgt := 311) cx.1 cx.2.1 dX1_step_85 (by rw [c85_9]; decide) (by rw [c85_9]; decide) (by rw [c85_9]; decide) (by decide) ?_
      have h := md_ip c85_9 h
      refine lv_aload_n cx.1 cx.2.1 dX1_step_311 rfl (lv_at hl 1 rfl) ?_
      refine lv_aload_n cx.1 cx.2.1 dX1_step_312 rfl (lv_at hl 2 rfl) ?_
      refine lv_aload_n cx.1 cx.2.1 dX1_step_313 rfl (lv_at hl 1 rfl) ?_
      refine cd_gO (o2 := 2) (e2 := 0) (o := 1) (k := 0) (f := 32) hj cx hw hic1 rfl ⟨by decide, rfl, by decide, rfl⟩ rfl (by decide) ⟨rfl, rfl⟩ (List.mem_cons_of_mem _ cm_179) dX1_step_314 ?_
      refine lv_iload cx.1 cx.2.1 dX1_step_317 (lv_at hl 0 rfl) ?_
      obtain ⟨p28, e_p28, h⟩ := md_ob h
      refine hp_callVr (As := [.int t0]) (rest := [.ref (ad 7 a1), .ref (ad 1 0)]) cx hw (kc_X2_unitAt l D cA E _ ad _ hj oq sgq sgv hE n p6.2 t0 p28 e_p28) (cwV 1 cx.2.2.2.2.2.1 (cd_giV cm_284 cm_285 cm_286 cm_167 cm_287) rfl rfl rfl hdc_X2_unitAt ⟨Nat.le_of_ble_eq_true rfl, Nat.le_of_ble_eq_true rfl⟩) (cd_atO hj (by decide) (by decide)) rfl rfl hl.1 rfl (Nat.le_of_ble_eq_true rfl) dX1_step_319 ⟨by (try dsimp only); omega, by (try dsimp only); omega⟩ (fun r u H locs hp hw => ?_)
      obtain ⟨⟨hb_p28, rfl⟩, ca, hj, rfl⟩ := hp
      obtain ⟨p29, e_p29, h⟩ := md_ob h
      obtain ⟨hm30, hn30, h⟩ := cd_cks h
      have hM30 : p.2.2.1 ≤ p29.2.2.1 ∧ p.2.2.2 ≤ p29.2.2.2 := ⟨hm30, hn30⟩
      have hle29 := (kc_X1_makeFun l D cA E sz ad _ hj oq sgq sgv hE n p28.2 b a1 (p28.1) (show _ < 8 by omega) (show _ < 60 by omega) p29 e_p29).1
      refine hp_callVi (As := [.ref (ad 7 a1), .ref (ad 9 p28.1)]) (rest := []) cx hw ((kc_X1_makeFun l D cA E _ ad _ hj oq sgq sgv hE n p28.2 b a1 (p28.1) (show _ < 8 by omega) (show _ < 60 by omega) p29 e_p29).2) (cwV 2 cx.2.2.2.2.2.1 (cd_giV cm_445 cm_446 cm_447 cm_130 cm_448) rfl rfl rfl hdc_X1_makeFun ⟨Nat.le_of_ble_eq_true rfl, Nat.le_of_ble_eq_true rfl⟩) (cd_atO hj (by decide) (by decide)) rfl rfl hl.1 rfl (Nat.le_of_ble_eq_true rfl) dX1_step_322 ⟨by (try dsimp only); omega, by (try dsimp only); omega⟩ (fun r u H locs hp hw => ?_)
      obtain ⟨rfl, ca, hj, rfl⟩ := hp
      refine W.widen (k := b0.1 - p29.2.2.1) (n := b0.2 - p29.2.2.2) (by omega) (by omega) ?_
      exact hp_iret cx hw (cd_retb hj h) dX1_step_325 (cd_le1 h) (cd_le2 h)
    have h := md_in c85_9 h
    by_cases c85_10 : l4 = 10
    · refine lv_tableIn (off := 241) (tgt := 326) cx.1 cx.2.1 dX1_step_85 (by rw [c85_10]; decide) (by rw [c85_10]; decide) (by rw [c85_10]; decide) (by decide) ?_
      have h := md_ip c85_10 h
      refine lv_aload_n cx.1 cx.2.1 dX1_step_326 rfl (lv_at hl 1 rfl) ?_
      refine lv_aload_n cx.1 cx.2.1 dX1_step_327 rfl (lv_at hl 2 rfl) ?_
      refine lv_aload_n cx.1 cx.2.1 dX1_step_328 rfl (lv_at hl 1 rfl) ?_
      refine cd_gO (o2 := 2) (e2 := 0) (o := 1) (k := 0) (f := 32) hj cx hw hic1 rfl ⟨by decide, rfl, by decide, rfl⟩ rfl (by decide) ⟨rfl, rfl⟩ (List.mem_cons_of_mem _ cm_179) dX1_step_329 ?_
      refine lv_iload cx.1 cx.2.1 dX1_step_332 (lv_at hl 0 rfl) ?_
      obtain ⟨p31, e_p31, h⟩ := md_ob h
      refine hp_callVr (As := [.int t0]) (rest := [.ref (ad 7 a1), .ref (ad 1 0)]) cx hw (kc_X2_unitAt l D cA E _ ad _ hj oq sgq sgv hE n p6.2 t0 p31 e_p31) (cwV 1 cx.2.2.2.2.2.1 (cd_giV cm_284 cm_285 cm_286 cm_167 cm_287) rfl rfl rfl hdc_X2_unitAt ⟨Nat.le_of_ble_eq_true rfl, Nat.le_of_ble_eq_true rfl⟩) (cd_atO hj (by decide) (by decide)) rfl rfl hl.1 rfl (Nat.le_of_ble_eq_true rfl) dX1_step_334 ⟨by (try dsimp only); omega, by (try dsimp only); omega⟩ (fun r u H locs hp hw => ?_)
      obtain ⟨⟨hb_p31, rfl⟩, ca, hj, rfl⟩ := hp
      obtain ⟨p32, e_p32, h⟩ := md_ob h
      refine hp_callVi (As := [.ref (ad 7 a1), .ref (ad 9 p31.1)]) (rest := []) cx hw (kc_X1_callPart l D cA E _ ad _ hj oq sgq sgv hE n p31.2 a1 (p31.1) (show _ < 8 by omega) (show _ < 60 by omega) p32 e_p32) (cwV 2 cx.2.2.2.2.2.1 (cd_giV cm_449 cm_450 cm_451 cm_130 cm_452) rfl rfl rfl hdc_X1_callPart ⟨Nat.le_of_ble_eq_true rfl, Nat.le_of_ble_eq_true rfl⟩) (cd_atO hj (by decide) (by decide)) rfl rfl hl.1 rfl (Nat.le_of_ble_eq_true rfl) dX1_step_337 ⟨by (try dsimp only); omega, by (try dsimp only); omega⟩ (fun r u H locs hp hw => ?_)
      obtain ⟨rfl, ca, hj, rfl⟩ := hp
      exact hp_iret cx hw (cd_retb hj h) dX1_step_340 (cd_le1 h) (cd_le2 h)
    have h := md_in c85_10 h
    by_cases c85_11 : l4 = 11
    · refine lv_tableIn (off := 256) (tgt := 341) cx.1 cx.2.1 dX1_step_85 (by rw [c85_11]; decide) (by rw [c85_11]; decide) (by rw [c85_11]; decide) (by decide) ?_
      have h := md_ip c85_11 h
      exact J341 _ hj p6.2 b l4 _ _ _ (by omega) (by omega) (by omega) (by omega) h hw (lv_sub hl [1, 2, 5] rfl)
    have h := md_in c85_11 h
    by_cases c85_12 : l4 = 12
    · refine lv_tableIn (off := 256) (tgt := 341) cx.1 cx.2.1 dX1_step_85 (by rw [c85_12]; decide) (by rw [c85_12]; decide) (by rw [c85_12]; decide) (by decide) ?_
      have h := md_ip c85_12 h
      exact J341 _ hj p6.2 b l4 _ _ _ (by omega) (by omega) (by omega) (by omega) h hw (lv_sub hl [1, 2, 5] rfl)
    have h := md_in c85_12 h
    by_cases c85_13 : l4 = 13
    · refine lv_tableIn (off := 256) (tgt := 341) cx.1 cx.2.1 dX1_step_85 (by rw [c85_13]; decide) (by rw [c85_13]; decide) (by rw [c85_13]; decide) (by decide) ?_
      have h := md_ip c85_13 h
      exact J341 _ hj p6.2 b l4 _ _ _ (by omega) (by omega) (by omega) (by omega) h hw (lv_sub hl [1, 2, 5] rfl)
    have h := md_in c85_13 h
    by_cases c85_14 : l4 = 14
    · refine lv_tableIn (off := 256) (tgt := 341) cx.1 cx.2.1 dX1_step_85 (by rw [c85_14]; decide) (by rw [c85_14]; decide) (by rw [c85_14]; decide) (by decide) ?_
      have h := md_ip c85_14 h
      exact J341 _ hj p6.2 b l4 _ _ _ (by omega) (by omega) (by omega) (by omega) h hw (lv_sub hl [1, 2, 5] rfl)
    have h := md_in c85_14 h
    by_cases c85_15 : l4 = 15
    · refine lv_tableIn (off := 264) (tgt := 349) cx.1 cx.2.1 dX1_step_85 (by rw [c85_15]; decide) (by rw [c85_15]; decide) (by rw [c85_15]; decide) (by decide) ?_
      have h := md_ip c85_15 h
      refine lv_aload_n cx.1 cx.2.1 dX1_step_349 rfl (lv_at hl 1 rfl) ?_
      refine lv_aload_n cx.1 cx.2.1 dX1_step_350 rfl (lv_at hl 2 rfl) ?_
      obtain ⟨p33, e_p33, h⟩ := md_ob h
      obtain ⟨hm34, hn34, h⟩ := cd_cks h
      have hM34 : p.2.2.1 ≤ p33.2.2.1 ∧ p.2.2.2 ≤ p33.2.2.2 := ⟨hm34, hn34⟩
      have hle33 := (kc_X1_compareSame l D cA E sz ad _ hj oq sgq sgv hE n p6.2 b a1 (show _ < 8 by omega) p33 e_p33).1
      refine hp_callVi (As := [.ref (ad 7 a1)]) (rest := []) cx hw ((kc_X1_compareSame l D cA E _ ad _ hj oq sgq sgv hE n p6.2 b a1 (show _ < 8 by omega) p33 e_p33).2) (cwV 1 cx.2.2.2.2.2.1 (cd_giV cm_453 cm_454 cm_455 cm_130 cm_456) rfl rfl rfl hdc_X1_compareSame ⟨Nat.le_of_ble_eq_true rfl, Nat.le_of_ble_eq_true rfl⟩) (cd_atO hj (by decide) (by decide)) rfl rfl hl.1 rfl (Nat.le_of_ble_eq_true rfl) dX1_step_351 ⟨by (try dsimp only); omega, by (try dsimp only); omega⟩ (fun r u H locs hp hw => ?_)
      obtain ⟨rfl, ca, hj, rfl⟩ := hp
      refine W.widen (k := b0.1 - p33.2.2.1) (n := b0.2 - p33.2.2.2) (by omega) (by omega) ?_
      exact hp_iret cx hw (cd_retb hj h) dX1_step_354 (cd_le1 h) (cd_le2 h)
    have h := md_in c85_15 h
    by_cases c85_16 : l4 = 16
    · refine lv_tableIn (off := 270) (tgt := 355) cx.1 cx.2.1 dX1_step_85 (by rw [c85_16]; decide) (by rw [c85_16]; decide) (by rw [c85_16]; decide) (by decide) ?_
      have h := md_ip c85_16 h
      refine lv_aload_n cx.1 cx.2.1 dX1_step_355 rfl (lv_at hl 2 rfl) ?_
      obtain ⟨p35, e_p35, h⟩ := md_ob h
      refine hp_callSi (As := [.ref (ad 7 a1)]) (rest := []) cx hw (kc_X1_drop l D cA E _ ad _ hj oq sgq sgv hE n p6.2 a1 (show _ < 8 by omega) p35 e_p35) (cwS 1 cx.2.2.2.2.2.1 (cd_giS cm_457 cm_458 cm_130 cm_459) rfl rfl rfl hdc_X1_drop ⟨Nat.le_of_ble_eq_true rfl, Nat.le_of_ble_eq_true rfl⟩) rfl hl.1 rfl (Nat.le_of_ble_eq_true rfl) dX1_step_356 ⟨by (try dsimp only); omega, by (try dsimp only); omega⟩ (fun r u H locs hp hw => ?_)
      obtain ⟨rfl, ca, hj, rfl⟩ := hp
      exact hp_iret cx hw (cd_retb hj h) dX1_step_359 (cd_le1 h) (cd_le2 h)
    have h := md_in c85_16 h
    by_cases c85_17 : l4 = 17
    · refine lv_tableIn (off := 275) (tgt := 360) cx.1 cx.2.1 dX1_step_85 (by rw [c85_17]; decide) (by rw [c85_17]; decide) (by rw [c85_17]; decide) (by decide) ?_
      have h := md_ip c85_17 h
      refine lv_aload_n cx.1 cx.2.1 dX1_step_360 rfl (lv_at hl 2 rfl) ?_
      refine lv_iload cx.1 cx.2.1 dX1_step_361 (lv_at hl 0 rfl) ?_
      obtain ⟨p36, e_p36, h⟩ := md_ob h
      refine hp_callSi (As := [.ref (ad 7 a1), .int t0]) (rest := []) cx hw (kc_X1_jump l D cA E _ ad _ hj oq sgq sgv hE n p6.2 a1 t0 (show _ < 8 by omega) p36 e_p36) (cwS 2 cx.2.2.2.2.2.1 (cd_giS cm_460 cm_461 cm_130 cm_462) rfl rfl rfl hdc_X1_jump ⟨Nat.le_of_ble_eq_true rfl, Nat.le_of_ble_eq_true rfl⟩) rfl hl.1 rfl (Nat.le_of_ble_eq_true rfl) dX1_step_363 ⟨by (try dsimp only); omega, by (try dsimp only); omega⟩ (fun r u H locs hp hw => ?_)
      obtain ⟨rfl, ca, hj, rfl⟩ := hp
      exact hp_iret cx hw (cd_retb hj h) dX1_step_366 (cd_le1 h) (cd_le2 h)
    have h := md_in c85_17 h
    by_cases c85_18 : l4 = 18
    · refine lv_tableIn (off := 282) (tgt := 367) cx.1 cx.2.1 dX1_step_85 (by rw [c85_18]; decide) (by rw [c85_18]; decide) (by rw [c85_18]; decide) (by decide) ?_
      have h := md_ip c85_18 h
      refine lv_aload_n cx.1 cx.2.1 dX1_step_367 rfl (lv_at hl 1 rfl) ?_
      refine lv_aload_n cx.1 cx.2.1 dX1_step_368 rfl (lv_at hl 2 rfl) ?_
      refine lv_iload cx.1 cx.2.1 dX1_step_369 (lv_at hl 0 rfl) ?_
      obtain ⟨p37, e_p37, h⟩ := md_ob h
      refine hp_callVi (As := [.ref (ad 7 a1), .int t0]) (rest := []) cx hw (kc_X1_jumpIfZero l D cA E _ ad _ hj oq sgq sgv hE n p6.2 a1 t0 (show _ < 8 by omega) p37 e_p37) (cwV 2 cx.2.2.2.2.2.1 (cd_giV cm_463 cm_464 cm_465 cm_130 cm_466) rfl rfl rfl hdc_X1_jumpIfZero ⟨Nat.le_of_ble_eq_true rfl, Nat.le_of_ble_eq_true rfl⟩) (cd_atO hj (by decide) (by decide)) rfl rfl hl.1 rfl (Nat.le_of_ble_eq_true rfl) dX1_step_371 ⟨by (try dsimp only); omega, by (try dsimp only); omega⟩ (fun r u H locs hp hw => ?_)
      obtain ⟨rfl, ca, hj, rfl⟩ := hp
      exact hp_iret cx hw (cd_retb hj h) dX1_step_374 (cd_le1 h) (cd_le2 h)
    have h := md_in c85_18 h
    by_cases c85_19 : l4 = 19
    · refine lv_tableIn (off := 290) (tgt := 375) cx.1 cx.2.1 dX1_step_85 (by rw [c85_19]; decide) (by rw [c85_19]; decide) (by rw [c85_19]; decide) (by decide) ?_
      have h := md_ip c85_19 h
      refine lv_aload_n cx.1 cx.2.1 dX1_step_375 rfl (lv_at hl 2 rfl) ?_
      refine lv_iconst (v := 5) cx.1 cx.2.1 dX1_step_376 (by decide) ?_
      refine lv_iload cx.1 cx.2.1 dX1_step_377 (lv_at hl 0 rfl) ?_
      obtain ⟨p38, e_p38, h⟩ := md_ob h
      refine hp_callSl (As := [.int 5, .int t0]) (rest := [.ref (ad 7 a1)]) cx hw (kc_X1_valueOf l D cA E _ ad _ hj oq sgq sgv hE n p6.2 (5 : Int32) t0 p38 e_p38) (cwS 2 cx.2.2.2.2.2.1 (cd_giS cm_154 cm_155 cm_130 cm_156) rfl rfl rfl hdc_X1_valueOf ⟨Nat.le_of_ble_eq_true rfl, Nat.le_of_ble_eq_true rfl⟩) rfl hl.1 rfl (Nat.le_of_ble_eq_true rfl) dX1_step_379 ⟨by (try dsimp only); omega, by (try dsimp only); omega⟩ (fun r u H locs hp hw => ?_)
      obtain ⟨rfl, ca, hj, rfl⟩ := hp
      obtain ⟨p39, e_p39, h⟩ := md_ob h
      obtain ⟨hm40, hn40, h⟩ := cd_cks h
      have hM40 : p.2.2.1 ≤ p39.2.2.1 ∧ p.2.2.2 ≤ p39.2.2.2 := ⟨hm40, hn40⟩
      have hle39 := (kc_X1_push l D cA E sz ad _ hj oq sgq sgv hE n p38.2 b a1 (p38.1) (show _ < 8 by omega) p39 e_p39).1
      refine hp_callSi (As := [.ref (ad 7 a1), .long p38.1]) (rest := []) cx hw ((kc_X1_push l D cA E _ ad _ hj oq sgq sgv hE n p38.2 b a1 (p38.1) (show _ < 8 by omega) p39 e_p39).2) (cwS 2 cx.2.2.2.2.2.1 (cd_giS cm_157 cm_158 cm_130 cm_159) rfl rfl rfl hdc_X1_push ⟨Nat.le_of_ble_eq_true rfl, Nat.le_of_ble_eq_true rfl⟩) rfl hl.1 rfl (Nat.le_of_ble_eq_true rfl) dX1_step_382 ⟨by (try dsimp only); omega, by (try dsimp only); omega⟩ (fun r u H locs hp hw => ?_)
      obtain ⟨rfl, ca, hj, rfl⟩ := hp
      refine W.widen (k := b0.1 - p39.2.2.1) (n := b0.2 - p39.2.2.2) (by omega) (by omega) ?_
      exact hp_iret cx hw (cd_retb hj h) dX1_step_385 (cd_le1 h) (cd_le2 h)
    have h := md_in c85_19 h
    by_cases c85_20 : l4 = 20
    · refine lv_tableIn (off := 301) (tgt := 386) cx.1 cx.2.1 dX1_step_85 (by rw [c85_20]; decide) (by rw [c85_20]; decide) (by rw [c85_20]; decide) (by decide) ?_
      have h := md_ip c85_20 h
      refine lv_aload_n cx.1 cx.2.1 dX1_step_386 rfl (lv_at hl 2 rfl) ?_
      obtain ⟨p41, e_p41, h⟩ := md_ob h
      obtain ⟨hm42, hn42, h⟩ := cd_cks h
      have hM42 : p.2.2.1 ≤ p41.2.2.1 ∧ p.2.2.2 ≤ p41.2.2.2 := ⟨hm42, hn42⟩
      have hle41 := (kc_X1_closeTry l D cA E sz ad _ hj oq sgq sgv hE n p6.2 b a1 (show _ < 8 by omega) p41 e_p41).1
      refine hp_callSi (As := [.ref (ad 7 a1)]) (rest := []) cx hw ((kc_X1_closeTry l D cA E _ ad _ hj oq sgq sgv hE n p6.2 b a1 (show _ < 8 by omega) p41 e_p41).2) (cwS 1 cx.2.2.2.2.2.1 (cd_giS cm_467 cm_468 cm_130 cm_469) rfl rfl rfl hdc_X1_closeTry ⟨Nat.le_of_ble_eq_true rfl, Nat.le_of_ble_eq_true rfl⟩) rfl hl.1 rfl (Nat.le_of_ble_eq_true rfl) dX1_step_387 ⟨by (try dsimp only); omega, by (try dsimp only); omega⟩ (fun r u H locs hp hw => ?_)
      obtain ⟨rfl, ca, hj, rfl⟩ := hp
      refine W.widen (k := b0.1 - p41.2.2.1) (n := b0.2 - p41.2.2.2) (by omega) (by omega) ?_
      exact hp_iret cx hw (cd_retb hj h) dX1_step_390 (cd_le1 h) (cd_le2 h)
    have h := md_in c85_20 h
    by_cases c85_21 : l4 = 21
    · refine lv_tableIn (off := 306) (tgt := 391) cx.1 cx.2.1 dX1_step_85 (by rw [c85_21]; decide) (by rw [c85_21]; decide) (by rw [c85_21]; decide) (by decide) ?_
      have h := md_ip c85_21 h
      refine lv_aload_n cx.1 cx.2.1 dX1_step_391 rfl (lv_at hl 1 rfl) ?_
      refine lv_aload_n cx.1 cx.2.1 dX1_step_392 rfl (lv_at hl 2 rfl) ?_
      obtain ⟨p43, e_p43, h⟩ := md_ob h
      obtain ⟨hm44, hn44, h⟩ := cd_cks h
      have hM44 : p.2.2.1 ≤ p43.2.2.1 ∧ p.2.2.2 ≤ p43.2.2.2 := ⟨hm44, hn44⟩
      have hle43 := (kc_X1_writeOut l D cA E sz ad _ hj oq sgq sgv hE n p6.2 b a1 (show _ < 8 by omega) p43 e_p43).1
      refine hp_callVi (As := [.ref (ad 7 a1)]) (rest := []) cx hw ((kc_X1_writeOut l D cA E _ ad _ hj oq sgq sgv hE n p6.2 b a1 (show _ < 8 by omega) p43 e_p43).2) (cwV 1 cx.2.2.2.2.2.1 (cd_giV cm_470 cm_471 cm_472 cm_130 cm_473) rfl rfl rfl hdc_X1_writeOut ⟨Nat.le_of_ble_eq_true rfl, Nat.le_of_ble_eq_true rfl⟩) (cd_atO hj (by decide) (by decide)) rfl rfl hl.1 rfl (Nat.le_of_ble_eq_true rfl) dX1_step_393 ⟨by (try dsimp only); omega, by (try dsimp only); omega⟩ (fun r u H locs hp hw => ?_)
      obtain ⟨rfl, ca, hj, rfl⟩ := hp
      refine W.widen (k := b0.1 - p43.2.2.1) (n := b0.2 - p43.2.2.2) (by omega) (by omega) ?_
      exact hp_iret cx hw (cd_retb hj h) dX1_step_396 (cd_le1 h) (cd_le2 h)
    have h := md_in c85_21 h
    by_cases c85_22 : l4 = 22
    · refine lv_tableIn (off := 312) (tgt := 397) cx.1 cx.2.1 dX1_step_85 (by rw [c85_22]; decide) (by rw [c85_22]; decide) (by rw [c85_22]; decide) (by decide) ?_
      have h := md_ip c85_22 h
      refine lv_aload_n cx.1 cx.2.1 dX1_step_397 rfl (lv_at hl 1 rfl) ?_
      refine lv_aload_n cx.1 cx.2.1 dX1_step_398 rfl (lv_at hl 2 rfl) ?_
      obtain ⟨p45, e_p45, h⟩ := md_ob h
      refine hp_callVi (As := [.ref (ad 7 a1)]) (rest := []) cx hw (kc_X1_failWith l D cA E _ ad _ hj oq sgq sgv hE n p6.2 a1 (show _ < 8 by omega) p45 e_p45) (cwV 1 cx.2.2.2.2.2.1 (cd_giV cm_474 cm_475 cm_476 cm_130 cm_477) rfl rfl rfl hdc_X1_failWith ⟨Nat.le_of_ble_eq_true rfl, Nat.le_of_ble_eq_true rfl⟩) (cd_atO hj (by decide) (by decide)) rfl rfl hl.1 rfl (Nat.le_of_ble_eq_true rfl) dX1_step_399 ⟨by (try dsimp only); omega, by (try dsimp only); omega⟩ (fun r u H locs hp hw => ?_)
      obtain ⟨rfl, ca, hj, rfl⟩ := hp
      exact hp_iret cx hw (cd_retb hj h) dX1_step_402 (cd_le1 h) (cd_le2 h)
    have h := md_in c85_22 h
    by_cases c85_23 : l4 = 23
    · refine lv_tableIn (off := 318) (tgt := 403) cx.1 cx.2.1 dX1_step_85 (by rw [c85_23]; decide) (by rw [c85_23]; decide) (by rw [c85_23]; decide) (by decide) ?_
      have h := md_ip c85_23 h
      refine lv_aload_n cx.1 cx.2.1 dX1_step_403 rfl (lv_at hl 1 rfl) ?_
      refine lv_aload_n cx.1 cx.2.1 dX1_step_404 rfl (lv_at hl 2 rfl) ?_
      obtain ⟨p46, e_p46, h⟩ := md_ob h
      obtain ⟨hm47, hn47, h⟩ := cd_cks h
      have hM47 : p.2.2.1 ≤ p46.2.2.1 ∧ p.2.2.2 ≤ p46.2.2.2 := ⟨hm47, hn47⟩
      have hle46 := (kc_X1_spawn l D cA E sz ad _ hj oq sgq sgv hE n p6.2 b a1 (show _ < 8 by omega) p46 e_p46).1
      refine hp_callVi (As := [.ref (ad 7 a1)]) (rest := []) cx hw ((kc_X1_spawn l D cA E _ ad _ hj oq sgq sgv hE n p6.2 b a1 (show _ < 8 by omega) p46 e_p46).2) (cwV 1 cx.2.2.2.2.2.1 (cd_giV cm_478 cm_479 cm_480 cm_130 cm_481) rfl rfl rfl hdc_X1_spawn ⟨Nat.le_of_ble_eq_true rfl, Nat.le_of_ble_eq_true rfl⟩) (cd_atO hj (by decide) (by decide)) rfl rfl hl.1 rfl (Nat.le_of_ble_eq_true rfl) dX1_step_405 ⟨by (try dsimp only); omega, by (try dsimp only); omega⟩ (fun r u H locs hp hw => ?_)
      obtain ⟨rfl, ca, hj, rfl⟩ := hp
      refine W.widen (k := b0.1 - p46.2.2.1) (n := b0.2 - p46.2.2.2) (by omega) (by omega) ?_
      exact hp_iret cx hw (cd_retb hj h) dX1_step_408 (cd_le1 h) (cd_le2 h)
    have h := md_in c85_23 h
    by_cases c85_24 : l4 = 24
    · refine lv_tableIn (off := 324) (tgt := 409) cx.1 cx.2.1 dX1_step_85 (by rw [c85_24]; decide) (by rw [c85_24]; decide) (by rw [c85_24]; decide) (by decide) ?_
      have h := md_ip c85_24 h
      refine lv_aload_n cx.1 cx.2.1 dX1_step_409 rfl (lv_at hl 1 rfl) ?_
      refine lv_aload_n cx.1 cx.2.1 dX1_step_410 rfl (lv_at hl 2 rfl) ?_
      obtain ⟨p48, e_p48, h⟩ := md_ob h
      obtain ⟨hm49, hn49, h⟩ := cd_cks h
      have hM49 : p.2.2.1 ≤ p48.2.2.1 ∧ p.2.2.2 ≤ p48.2.2.2 := ⟨hm49, hn49⟩
      have hle48 := (kc_X1_await l D cA E sz ad _ hj oq sgq sgv hE n p6.2 b a1 (show _ < 8 by omega) p48 e_p48).1
      refine hp_callVi (As := [.ref (ad 7 a1)]) (rest := []) cx hw ((kc_X1_await l D cA E _ ad _ hj oq sgq sgv hE n p6.2 b a1 (show _ < 8 by omega) p48 e_p48).2) (cwV 1 cx.2.2.2.2.2.1 (cd_giV cm_482 cm_483 cm_484 cm_130 cm_485) rfl rfl rfl hdc_X1_await ⟨Nat.le_of_ble_eq_true rfl, Nat.le_of_ble_eq_true rfl⟩) (cd_atO hj (by decide) (by decide)) rfl rfl hl.1 rfl (Nat.le_of_ble_eq_true rfl) dX1_step_411 ⟨by (try dsimp only); omega, by (try dsimp only); omega⟩ (fun r u H locs hp hw => ?_)
      obtain ⟨rfl, ca, hj, rfl⟩ := hp
      refine W.widen (k := b0.1 - p48.2.2.1) (n := b0.2 - p48.2.2.2) (by omega) (by omega) ?_
      exact hp_iret cx hw (cd_retb hj h) dX1_step_414 (cd_le1 h) (cd_le2 h)
    have h := md_in c85_24 h
    by_cases c85_25 : l4 = 25
    · refine lv_tableIn (off := 330) (tgt := 415) cx.1 cx.2.1 dX1_step_85 (by rw [c85_25]; decide) (by rw [c85_25]; decide) (by rw [c85_25]; decide) (by decide) ?_
      have h := md_ip c85_25 h
      refine lv_aload_n cx.1 cx.2.1 dX1_step_415 rfl (lv_at hl 1 rfl) ?_
      refine lv_aload_n cx.1 cx.2.1 dX1_step_416 rfl (lv_at hl 2 rfl) ?_
      refine lv_iload cx.1 cx.2.1 dX1_step_417 (lv_at hl 0 rfl) ?_
      refine lv_iconst (v := 1) cx.1 cx.2.1 dX1_step_419 (by decide) ?_
      obtain ⟨p50, e_p50, h⟩ := md_ob h
      obtain ⟨hm51, hn51, h⟩ := cd_cks h
      have hM51 : p.2.2.1 ≤ p50.2.2.1 ∧ p.2.2.2 ≤ p50.2.2.2 := ⟨hm51, hn51⟩
      have hle50 := (kc_X1_ask l D cA E sz ad _ hj oq sgq sgv hE n p6.2 b a1 t0 (1 : Int32) (show _ < 8 by omega) p50 e_p50).1
      refine hp_callVi (As := [.ref (ad 7 a1), .int t0, .int 1]) (rest := []) cx hw ((kc_X1_ask l D cA E _ ad _ hj oq sgq sgv hE n p6.2 b a1 t0 (1 : Int32) (show _ < 8 by omega) p50 e_p50).2) (cwV 3 cx.2.2.2.2.2.1 (cd_giV cm_486 cm_487 cm_488 cm_130 cm_489) rfl rfl rfl hdc_X1_ask ⟨Nat.le_of_ble_eq_true rfl, Nat.le_of_ble_eq_true rfl⟩) (cd_atO hj (by decide) (by decide)) rfl rfl hl.1 rfl (Nat.le_of_ble_eq_true rfl) dX1_step_420 ⟨by (try dsimp only); omega, by (try dsimp only); omega⟩ (fun r u H locs hp hw => ?_)
      obtain ⟨rfl, ca, hj, rfl⟩ := hp
      refine W.widen (k := b0.1 - p50.2.2.1) (n := b0.2 - p50.2.2.2) (by omega) (by omega) ?_
      exact hp_iret cx hw (cd_retb hj h) dX1_step_423 (cd_le1 h) (cd_le2 h)
    have h := md_in c85_25 h
    by_cases c85_26 : l4 = 26
    · refine lv_tableIn (off := 339) (tgt := 424) cx.1 cx.2.1 dX1_step_85 (by rw [c85_26]; decide) (by rw [c85_26]; decide) (by rw [c85_26]; decide) (by decide) ?_
      have h := md_ip c85_26 h
      refine lv_aload_n cx.1 cx.2.1 dX1_step_424 rfl (lv_at hl 1 rfl) ?_
      refine lv_aload_n cx.1 cx.2.1 dX1_step_425 rfl (lv_at hl 2 rfl) ?_
      refine lv_iload cx.1 cx.2.1 dX1_step_426 (lv_at hl 0 rfl) ?_
      refine lv_iconst (v := 0) cx.1 cx.2.1 dX1_step_428 (by decide) ?_
      obtain ⟨p52, e_p52, h⟩ := md_ob h
      obtain ⟨hm53, hn53, h⟩ := cd_cks h
      have hM53 : p.2.2.1 ≤ p52.2.2.1 ∧ p.2.2.2 ≤ p52.2.2.2 := ⟨hm53, hn53⟩
      have hle52 := (kc_X1_ask l D cA E sz ad _ hj oq sgq sgv hE n p6.2 b a1 t0 (0 : Int32) (show _ < 8 by omega) p52 e_p52).1
      refine hp_callVi (As := [.ref (ad 7 a1), .int t0, .int 0]) (rest := []) cx hw ((kc_X1_ask l D cA E _ ad _ hj oq sgq sgv hE n p6.2 b a1 t0 (0 : Int32) (show _ < 8 by omega) p52 e_p52).2) (cwV 3 cx.2.2.2.2.2.1 (cd_giV cm_486 cm_487 cm_488 cm_130 cm_489) rfl rfl rfl hdc_X1_ask ⟨Nat.le_of_ble_eq_true rfl, Nat.le_of_ble_eq_true rfl⟩) (cd_atO hj (by decide) (by decide)) rfl rfl hl.1 rfl (Nat.le_of_ble_eq_true rfl) dX1_step_429 ⟨by (try dsimp only); omega, by (try dsimp only); omega⟩ (fun r u H locs hp hw => ?_)
      obtain ⟨rfl, ca, hj, rfl⟩ := hp
      refine W.widen (k := b0.1 - p52.2.2.1) (n := b0.2 - p52.2.2.2) (by omega) (by omega) ?_
      exact hp_iret cx hw (cd_retb hj h) dX1_step_432 (cd_le1 h) (cd_le2 h)
    have h := md_in c85_26 h
    by_cases c85_27 : l4 = 27
    · refine lv_tableIn (off := 348) (tgt := 433) cx.1 cx.2.1 dX1_step_85 (by rw [c85_27]; decide) (by rw [c85_27]; decide) (by rw [c85_27]; decide) (by decide) ?_
      have h := md_ip c85_27 h
      refine lv_aload_n cx.1 cx.2.1 dX1_step_433 rfl (lv_at hl 2 rfl) ?_
      refine lv_iconst (v := 4) cx.1 cx.2.1 dX1_step_434 (by decide) ?_
      refine lv_aload_n cx.1 cx.2.1 dX1_step_435 rfl (lv_at hl 1 rfl) ?_
      refine cd_gI (o := 1) (k := 17) (f := 49) hj cx hw hic1 rfl ⟨by decide, rfl, by decide, rfl⟩ rfl (by decide) (List.mem_cons_of_mem _ cm_122) dX1_step_436 ?_
      refine lv_if_eq (tgt := 449) cx.1 cx.2.1 dX1_step_439 (by decide) (fun c439 => ?_) (fun c439 => ?_)
      · have h := md_ip c439 h
        refine lv_aload_n cx.1 cx.2.1 dX1_step_449 rfl (lv_at hl 2 rfl) ?_
        obtain ⟨p54, e_p54, h⟩ := md_ob h
        refine hp_callVi (As := []) (rest := [.int 4, .ref (ad 7 a1)]) cx hw (kc_X7_nodeNow l D cA E _ ad _ hj oq sgq sgv hE n p6.2 a1 (show _ < 8 by omega) p54 e_p54) (cwV 0 cx.2.2.2.2.2.1 (cd_giV cm_123 cm_124 cm_125 cm_94 cm_126) rfl rfl rfl hdc_X7_nodeNow ⟨Nat.le_of_ble_eq_true rfl, Nat.le_of_ble_eq_true rfl⟩) (cd_atO hj (by decide) (show _ < 8 by omega)) rfl rfl hl.1 rfl (Nat.le_of_ble_eq_true rfl) dX1_step_450 ⟨by (try dsimp only); omega, by (try dsimp only); omega⟩ (fun r u H locs hp hw => ?_)
        obtain ⟨rfl, ca, hj, rfl⟩ := hp
        exact J453 _ hj p54.2 b (p54.1) 4 _ _ _ (by omega) (by omega) (by omega) (by omega) h hw (lv_sub hl [] rfl)
      · have h := md_in c439 h
        refine lv_aload_n cx.1 cx.2.1 dX1_step_442 rfl (lv_at hl 2 rfl) ?_
        obtain ⟨p55, e_p55, h⟩ := md_ob h
        refine hp_callVi (As := []) (rest := [.int 4, .ref (ad 7 a1)]) cx hw (kc_X7_contextNow l D cA E _ ad _ hj oq sgq sgv hE n p6.2 a1 (show _ < 8 by omega) p55 e_p55) (cwV 0 cx.2.2.2.2.2.1 (cd_giV cm_136 cm_137 cm_138 cm_94 cm_139) rfl rfl rfl hdc_X7_contextNow ⟨Nat.le_of_ble_eq_true rfl, Nat.le_of_ble_eq_true rfl⟩) (cd_atO hj (by decide) (show _ < 8 by omega)) rfl rfl hl.1 rfl (Nat.le_of_ble_eq_true rfl) dX1_step_443 ⟨by (try dsimp only); omega, by (try dsimp only); omega⟩ (fun r u H locs hp hw => ?_)
        obtain ⟨rfl, ca, hj, rfl⟩ := hp
        refine lv_goto (tgt := 453) cx.1 cx.2.1 dX1_step_446 (by decide) ?_
        exact J453 _ hj p55.2 b (p55.1) 4 _ _ _ (by omega) (by omega) (by omega) (by omega) h hw (lv_sub hl [] rfl)
    have h := md_in c85_27 h
    have nc85_0 := md_nei c85_0
    have nc85_1 := md_nei c85_1
    have nc85_2 := md_nei c85_2
    have nc85_3 := md_nei c85_3
    have nc85_4 := md_nei c85_4
    have nc85_5 := md_nei c85_5
    have nc85_6 := md_nei c85_6
    have nc85_7 := md_nei c85_7
    have nc85_8 := md_nei c85_8
    have nc85_9 := md_nei c85_9
    have nc85_10 := md_nei c85_10
    have nc85_11 := md_nei c85_11
    have nc85_12 := md_nei c85_12
    have nc85_13 := md_nei c85_13
    have nc85_14 := md_nei c85_14
    have nc85_15 := md_nei c85_15
    have nc85_16 := md_nei c85_16
    have nc85_17 := md_nei c85_17
    have nc85_18 := md_nei c85_18
    have nc85_19 := md_nei c85_19
    have nc85_20 := md_nei c85_20
    have nc85_21 := md_nei c85_21
    have nc85_22 := md_nei c85_22
    have nc85_23 := md_nei c85_23
    have nc85_24 := md_nei c85_24
    have nc85_25 := md_nei c85_25
    have nc85_26 := md_nei c85_26
    have nc85_27 := md_nei c85_27
    refine lv_tableOut (tgt := 460) cx.1 cx.2.1 dX1_step_85 (by have := nc85_0; rw [show ((0 : Int32)).toInt = 0 from by decide] at this; have := nc85_1; rw [show ((1 : Int32)).toInt = 1 from by decide] at this; have := nc85_2; rw [show ((2 : Int32)).toInt = 2 from by decide] at this; have := nc85_3; rw [show ((3 : Int32)).toInt = 3 from by decide] at this; have := nc85_4; rw [show ((4 : Int32)).toInt = 4 from by decide] at this; have := nc85_5; rw [show ((5 : Int32)).toInt = 5 from by decide] at this; have := nc85_6; rw [show ((6 : Int32)).toInt = 6 from by decide] at this; have := nc85_7; rw [show ((7 : Int32)).toInt = 7 from by decide] at this; have := nc85_8; rw [show ((8 : Int32)).toInt = 8 from by decide] at this; have := nc85_9; rw [show ((9 : Int32)).toInt = 9 from by decide] at this; have := nc85_10; rw [show ((10 : Int32)).toInt = 10 from by decide] at this; have := nc85_11; rw [show ((11 : Int32)).toInt = 11 from by decide] at this; have := nc85_12; rw [show ((12 : Int32)).toInt = 12 from by decide] at this; have := nc85_13; rw [show ((13 : Int32)).toInt = 13 from by decide] at this; have := nc85_14; rw [show ((14 : Int32)).toInt = 14 from by decide] at this; have := nc85_15; rw [show ((15 : Int32)).toInt = 15 from by decide] at this; have := nc85_16; rw [show ((16 : Int32)).toInt = 16 from by decide] at this; have := nc85_17; rw [show ((17 : Int32)).toInt = 17 from by decide] at this; have := nc85_18; rw [show ((18 : Int32)).toInt = 18 from by decide] at this; have := nc85_19; rw [show ((19 : Int32)).toInt = 19 from by decide] at this; have := nc85_20; rw [show ((20 : Int32)).toInt = 20 from by decide] at this; have := nc85_21; rw [show ((21 : Int32)).toInt = 21 from by decide] at this; have := nc85_22; rw [show ((22 : Int32)).toInt = 22 from by decide] at this; have := nc85_23; rw [show ((23 : Int32)).toInt = 23 from by decide] at this; have := nc85_24; rw [show ((24 : Int32)).toInt = 24 from by decide] at this; have := nc85_25; rw [show ((25 : Int32)).toInt = 25 from by decide] at this; have := nc85_26; rw [show ((26 : Int32)).toInt = 26 from by decide] at this; have := nc85_27; rw [show ((27 : Int32)).toInt = 27 from by decide] at this;  omega) (by decide) ?_
    refine lv_aload_n cx.1 cx.2.1 dX1_step_460 rfl (lv_at hl 1 rfl) ?_
    refine lv_aload_n cx.1 cx.2.1 dX1_step_461 rfl (lv_at hl 2 rfl) ?_
    obtain ⟨p56, e_p56, h⟩ := md_ob h
    obtain ⟨hm57, hn57, h⟩ := cd_cks h
    have hM57 : p.2.2.1 ≤ p56.2.2.1 ∧ p.2.2.2 ≤ p56.2.2.2 := ⟨hm57, hn57⟩
    have hle56 := (kc_X1_back l D cA E sz ad _ hj oq sgq sgv hE n p6.2 b a1 (show _ < 8 by omega) p56 e_p56).1
    refine hp_callVi (As := [.ref (ad 7 a1)]) (rest := []) cx hw ((kc_X1_back l D cA E _ ad _ hj oq sgq sgv hE n p6.2 b a1 (show _ < 8 by omega) p56 e_p56).2) (cwV 1 cx.2.2.2.2.2.1 (cd_giV cm_490 cm_491 cm_492 cm_130 cm_493) rfl rfl rfl hdc_X1_back ⟨Nat.le_of_ble_eq_true rfl, Nat.le_of_ble_eq_true rfl⟩) (cd_atO hj (by decide) (by decide)) rfl rfl hl.1 rfl (Nat.le_of_ble_eq_true rfl) dX1_step_462 ⟨by (try dsimp only); omega, by (try dsimp only); omega⟩ (fun r u H locs hp hw => ?_)
    obtain ⟨rfl, ca, hj, rfl⟩ := hp
    refine W.widen (k := b0.1 - p56.2.2.1) (n := b0.2 - p56.2.2.2) (by omega) (by omega) ?_
    exact hp_iret cx hw (cd_retb hj h) dX1_step_465 (cd_le1 h) (cd_le2 h)
  have J51 : ∀ (ca : Nat → Nat) (hj : cd_inj ad ca) (σ : cd_S) (b : cd_B) (l2 : Nat) (l3 : Int32) (l4 : Int32) (t0 : Int32) (H : Heap) (locs : List Loc) (ls : Array Slot), l2 < 197 → b.1 ≤ b0.1 → b.2 ≤ b0.2 → p.2.2.1 ≤ b.1 → p.2.2.2 ≤ b.2 → f_X1_step_J51 n a1 σ b l2 l3 l4 t0 = some p → hp_w D vwCl (hp_Tl cA) E (hp_A (cd_pic cA ad ca0 σ0) sz) ss H locs (cd_pic cA ad ca σ) → lv_has ls 7 [(0, .ref (ad 1 0)), (1, .ref (ad 7 a1)), (2, .ref (ad 6 l2)), (3, .int l3), (4, .int l4)] → W pp l ee ({ frames := 7, cells := b0.1 - p.2.2.1, slots := b0.2 - p.2.2.2, locals := 185 }) ss mm [.ref (ad 1 0), .ref (ad 7 a1)].toArray bb mt cd H locs (b0.1 - b.1) (b0.2 - b.2) (MQ bb (hp_Qi D vwCl (hp_Tl cA) sz (cd_pic cA ad ca0 σ0) (fun r u => r = p.1 ∧ ∃ ca1, cd_inj ad ca1 ∧ u = cd_pic cA ad ca1 p.2.1)) [.ref (ad 1 0), .ref (ad 7 a1)].toArray ss (b0.1 - p.2.2.1) (b0.2 - p.2.2.2) (hp_A (cd_pic cA ad ca0 σ0) sz)) (F0 mm 51 ls [.int t0]) := by
    intro ca hj σ b l2 l3 l4 t0 H locs ls hb_l2 hb1 hb2 hf1 hf2 h hw hl
    refine lv_istore (lv' := [(5, .int t0), (0, .ref (ad 1 0)), (1, .ref (ad 7 a1)), (2, .ref (ad 6 l2)), (3, .int l3), (4, .int l4)]) cx.1 cx.2.1 dX1_step_51 hl (by decide) rfl (fun ls hl => ?_)
    refine lv_iload cx.1 cx.2.1 dX1_step_53 (lv_at hl 0 rfl) ?_
    refine lv_if_le (tgt := 68) cx.1 cx.2.1 dX1_step_55 (by decide) (fun c55 => ?_) (fun c55 => ?_)
    · have h := md_ip c55 h
      refine lv_iconst (v := 0) cx.1 cx.2.1 dX1_step_68 (by decide) ?_
      exact J69 _ hj σ b l2 l3 l4 t0 0 _ _ _ (by omega) (by omega) (by omega) (by omega) (by omega) h hw (lv_sub hl [1, 2, 3, 4, 5, 0] rfl)
    · have h := md_in c55 h
      refine lv_aload_n cx.1 cx.2.1 dX1_step_58 rfl (lv_at hl 3 rfl) ?_
      refine lv_iload_n cx.1 cx.2.1 dX1_step_59 rfl (lv_at hl 4 rfl) ?_
      refine lv_iconst (v := 1) cx.1 cx.2.1 dX1_step_60 (by decide) ?_
      refine lv_iadd cx.1 cx.2.1 dX1_step_61 ?_
      obtain ⟨p58, e_p58, h⟩ := md_ob h
      refine hp_callVi (As := [.int (l3 + 1)]) (rest := []) cx hw (kc_X6_pairAt l D cA E _ ad _ hj oq sgq sgv hE n σ l2 ((l3 + 1)) (show _ < 197 by omega) p58 e_p58) (cwV 1 cx.2.2.2.2.2.1 (cd_giV cm_418 cm_419 cm_420 cm_5 cm_421) rfl rfl rfl hdc_X6_pairAt ⟨Nat.le_of_ble_eq_true rfl, Nat.le_of_ble_eq_true rfl⟩) (cd_atO hj (by decide) (show _ < 197 by omega)) rfl rfl hl.1 rfl (Nat.le_of_ble_eq_true rfl) dX1_step_62 ⟨by (try dsimp only); omega, by (try dsimp only); omega⟩ (fun r u H locs hp hw => ?_)
      obtain ⟨rfl, ca, hj, rfl⟩ := hp
      refine lv_goto (tgt := 69) cx.1 cx.2.1 dX1_step_65 (by decide) ?_
      exact J69 _ hj p58.2 b l2 l3 l4 t0 (p58.1) _ _ _ (by omega) (by omega) (by omega) (by omega) (by omega) h hw (lv_sub hl [1, 2, 3, 4, 5, 0] rfl)
  have J50 : ∀ (ca : Nat → Nat) (hj : cd_inj ad ca) (σ : cd_S) (b : cd_B) (l2 : Nat) (l3 : Int32) (l4 : Int32) (H : Heap) (locs : List Loc) (ls : Array Slot), l2 < 197 → b.1 ≤ b0.1 → b.2 ≤ b0.2 → p.2.2.1 ≤ b.1 → p.2.2.2 ≤ b.2 → f_X1_step_J50 n a1 σ b l2 l3 l4 = some p → hp_w D vwCl (hp_Tl cA) E (hp_A (cd_pic cA ad ca0 σ0) sz) ss H locs (cd_pic cA ad ca σ) → lv_has ls 7 [(0, .ref (ad 1 0)), (1, .ref (ad 7 a1)), (2, .ref (ad 6 l2)), (3, .int l3), (4, .int l4)] → W pp l ee ({ frames := 7, cells := b0.1 - p.2.2.1, slots := b0.2 - p.2.2.2, locals := 185 }) ss mm [.ref (ad 1 0), .ref (ad 7 a1)].toArray bb mt cd H locs (b0.1 - b.1) (b0.2 - b.2) (MQ bb (hp_Qi D vwCl (hp_Tl cA) sz (cd_pic cA ad ca0 σ0) (fun r u => r = p.1 ∧ ∃ ca1, cd_inj ad ca1 ∧ u = cd_pic cA ad ca1 p.2.1)) [.ref (ad 1 0), .ref (ad 7 a1)].toArray ss (b0.1 - p.2.2.1) (b0.2 - p.2.2.2) (hp_A (cd_pic cA ad ca0 σ0) sz)) (F0 mm 50 ls []) := by
    intro ca hj σ b l2 l3 l4 H locs ls hb_l2 hb1 hb2 hf1 hf2 h hw hl
    refine lv_iconst (v := 0) cx.1 cx.2.1 dX1_step_50 (by decide) ?_
    exact J51 _ hj σ b l2 l3 l4 0 _ _ _ (by omega) (by omega) (by omega) (by omega) (by omega) h hw (lv_sub hl [0, 1, 2, 3, 4] rfl)
  refine lv_aload_n cx.1 cx.2.1 dX1_step_0 rfl (lv_at hl 0 rfl) ?_
  refine cd_gO (o2 := 2) (e2 := 0) (o := 1) (k := 0) (f := 32) hj cx hw hic1 rfl ⟨by decide, rfl, by decide, rfl⟩ rfl (by decide) ⟨rfl, rfl⟩ (List.mem_cons_of_mem _ cm_179) dX1_step_1 ?_
  refine lv_aload_n cx.1 cx.2.1 dX1_step_4 rfl (lv_at hl 1 rfl) ?_
  obtain ⟨p59, e_p59, h⟩ := md_ob h
  refine hp_callVi (As := []) (rest := [.ref (ad 2 0)]) cx hw (kc_X7_unitNow l D cA E _ ad _ hj oq sgq sgv hE n σ0 a1 (show _ < 8 by omega) p59 e_p59) (cwV 0 cx.2.2.2.2.2.1 (cd_giV cm_408 cm_409 cm_410 cm_94 cm_411) rfl rfl rfl hdc_X7_unitNow ⟨Nat.le_of_ble_eq_true rfl, Nat.le_of_ble_eq_true rfl⟩) (cd_atO hj (by decide) (show _ < 8 by omega)) rfl rfl hl.1 rfl (Nat.le_of_ble_eq_true rfl) dX1_step_5 ⟨by (try dsimp only); omega, by (try dsimp only); omega⟩ (fun r u H locs hp hw => ?_)
  obtain ⟨rfl, ca, hj, rfl⟩ := hp
  obtain ⟨p60, e_p60, h⟩ := md_ob h
  refine hp_callVr (As := [.int p59.1]) (rest := []) cx hw (kc_X2_unitAt l D cA E _ ad _ hj oq sgq sgv hE n p59.2 (p59.1) p60 e_p60) (cwV 1 cx.2.2.2.2.2.1 (cd_giV cm_284 cm_285 cm_286 cm_167 cm_287) rfl rfl rfl hdc_X2_unitAt ⟨Nat.le_of_ble_eq_true rfl, Nat.le_of_ble_eq_true rfl⟩) (cd_atO hj (by decide) (by decide)) rfl rfl hl.1 rfl (Nat.le_of_ble_eq_true rfl) dX1_step_8 ⟨by (try dsimp only); omega, by (try dsimp only); omega⟩ (fun r u H locs hp hw => ?_)
  obtain ⟨⟨hb_p60, rfl⟩, ca, hj, rfl⟩ := hp
  refine cd_gO (o2 := 6) (e2 := (18 + 3 * (p60.1))) (o := 9) (k := 16) (f := 304) hj cx hw hic9 rfl ⟨by decide, rfl, by decide, rfl⟩ rfl (show _ < 60 by omega) ⟨rfl, rfl⟩ (List.mem_cons_of_mem _ cm_412) dX1_step_11 ?_
  refine lv_astore_n (lv' := [(2, .ref (ad 6 (18 + 3 * (p60.1)))), (0, .ref (ad 1 0)), (1, .ref (ad 7 a1))]) cx.1 cx.2.1 dX1_step_14 rfl hl (by decide) rfl (fun ls hl => ?_)
  refine lv_aload_n cx.1 cx.2.1 dX1_step_15 rfl (lv_at hl 2 rfl) ?_
  obtain ⟨p61, e_p61, h⟩ := md_ob h
  refine hp_callVi (As := []) (rest := []) cx hw (kc_X7_placeNow l D cA E _ ad _ hj oq sgq sgv hE n p60.2 a1 (show _ < 8 by omega) p61 e_p61) (cwV 0 cx.2.2.2.2.2.1 (cd_giV cm_413 cm_414 cm_415 cm_94 cm_416) rfl rfl rfl hdc_X7_placeNow ⟨Nat.le_of_ble_eq_true rfl, Nat.le_of_ble_eq_true rfl⟩) (cd_atO hj (by decide) (show _ < 8 by omega)) rfl rfl hl.1 rfl (Nat.le_of_ble_eq_true rfl) dX1_step_16 ⟨by (try dsimp only); omega, by (try dsimp only); omega⟩ (fun r u H locs hp hw => ?_)
  obtain ⟨rfl, ca, hj, rfl⟩ := hp
  refine lv_istore_n (lv' := [(3, .int p61.1), (2, .ref (ad 6 (18 + 3 * (p60.1)))), (0, .ref (ad 1 0)), (1, .ref (ad 7 a1))]) cx.1 cx.2.1 dX1_step_19 rfl hl (by decide) rfl (fun ls hl => ?_)
  refine lv_aload_n cx.1 cx.2.1 dX1_step_20 rfl (lv_at hl 1 rfl) ?_
  refine lv_iload_n cx.1 cx.2.1 dX1_step_21 rfl (lv_at hl 0 rfl) ?_
  obtain ⟨p62, e_p62, h⟩ := md_ob h
  refine hp_callVi (As := [.int p61.1]) (rest := []) cx hw (kc_X6_at l D cA E _ ad _ hj oq sgq sgv hE n p61.2 ((18 + 3 * (p60.1))) (p61.1) (show _ < 197 by omega) p62 e_p62) (cwV 1 cx.2.2.2.2.2.1 (cd_giV cm_267 cm_17 cm_18 cm_5 cm_19) rfl rfl rfl hdc_X6_at ⟨Nat.le_of_ble_eq_true rfl, Nat.le_of_ble_eq_true rfl⟩) (cd_atO hj (by decide) (show _ < 197 by omega)) rfl rfl hl.1 rfl (Nat.le_of_ble_eq_true rfl) dX1_step_22 ⟨by (try dsimp only); omega, by (try dsimp only); omega⟩ (fun r u H locs hp hw => ?_)
  obtain ⟨rfl, ca, hj, rfl⟩ := hp
  refine lv_istore (lv' := [(4, .int p62.1), (3, .int p61.1), (2, .ref (ad 6 (18 + 3 * (p60.1)))), (0, .ref (ad 1 0)), (1, .ref (ad 7 a1))]) cx.1 cx.2.1 dX1_step_25 hl (by decide) rfl (fun ls hl => ?_)
  refine lv_iload cx.1 cx.2.1 dX1_step_27 (lv_at hl 0 rfl) ?_
  refine lv_if_lt (tgt := 50) cx.1 cx.2.1 dX1_step_29 (by decide) (fun c29 => ?_) (fun c29 => ?_)
  · have h := md_ip c29 h
    exact J50 _ hj p62.2 b0 ((18 + 3 * (p60.1))) (p61.1) (p62.1) _ _ _ (by omega) (by omega) (by omega) (by omega) (by omega) h hw (lv_sub hl [3, 4, 2, 1, 0] rfl)
  · have h := md_in c29 h
    refine lv_iload cx.1 cx.2.1 dX1_step_32 (lv_at hl 0 rfl) ?_
    refine va_getsN cx.1 cx.2.1 (hE.2.2.1 _ _ _ hw.2.2.2.2.2).1.1 hw.2.1 cx.2.2.2.2.1 (va_Nw.use rfl (hE.2.2.1 _ _ _ hw.2.2.2.2.2).1.2.1) (fun _ h => h) dX1_step_34 ?_
    refine va_tlen (v := 29) cx.1 cx.2.1 (hE.2.2.1 _ _ _ hw.2.2.2.2.2).2 hw.2.1 (by decide) dX1_step_37 ?_
    refine lv_icmp_ge (tgt := 50) cx.1 cx.2.1 dX1_step_38 (by decide) (fun c38 => ?_) (fun c38 => ?_)
    · have h := md_ip c38 h
      exact J50 _ hj p62.2 b0 ((18 + 3 * (p60.1))) (p61.1) (p62.1) _ _ _ (by omega) (by omega) (by omega) (by omega) (by omega) h hw (lv_sub hl [3, 4, 2, 1, 0] rfl)
    · have h := md_in c38 h
      refine va_getsN cx.1 cx.2.1 (hE.2.2.1 _ _ _ hw.2.2.2.2.2).1.1 hw.2.1 cx.2.2.2.2.1 (va_Nw.use rfl (hE.2.2.1 _ _ _ hw.2.2.2.2.2).1.2.1) (fun _ h => h) dX1_step_41 ?_
      refine lv_iload cx.1 cx.2.1 dX1_step_44 (lv_at hl 0 rfl) ?_
      obtain ⟨v63, e_v63, h⟩ := md_ob h
      refine va_ti (v := .int v63) cx.1 cx.2.1 (hE.2.2.1 _ _ _ hw.2.2.2.2.2).2 hw.2.1 (cd_opls e_v63).1 (cd_opls e_v63).2 dX1_step_46 ?_
      refine lv_goto (tgt := 51) cx.1 cx.2.1 dX1_step_47 (by decide) ?_
      exact J51 _ hj p62.2 b0 ((18 + 3 * (p60.1))) (p61.1) (p62.1) v63 _ _ _ (by omega) (by omega) (by omega) (by omega) (by omega) h hw (lv_sub hl [3, 4, 2, 1, 0] rfl)
