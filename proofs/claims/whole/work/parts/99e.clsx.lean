set_option maxHeartbeats 4000000 in
set_option maxRecDepth 100000 in
theorem kx_X4_readMethod (l : Launch) (D : va_G) (cA : Nat → ClassId) (E : hp_N) (sz : Nat) (ad : Nat → Nat → Nat) (ca0 : Nat → Nat) (hj : cd_inj ad ca0) (oq sgq sgv : Nat) (hE : cd_E E oq sgq sgv) (hX : cd_X l E) (n : Nat) (σ0 : cd_S) (b0 : cd_B) (p : (cd_S × cd_B)) (h : f_X4_readMethod n σ0 b0 = some (Sum.inr p)) : (p.2.1 ≤ b0.1 ∧ p.2.2 ≤ b0.2) ∧ vx_Met l yX4_readMethod (Cond.code yX4_readMethod cX4_readMethod 3 none :: v_CLS) ({ frames := 417, cells := b0.1 - p.2.1, slots := b0.2 - p.2.2, locals := 10707 }) (hp_Pc D vwCl (hp_Tl cA) E sz (cd_pic cA ad ca0 σ0) [.ref (ad 4 0)]) (hp_Qv D vwCl (hp_Tl cA) sz (cd_pic cA ad ca0 σ0) (fun _ => False)) (hp_XQ D vwCl (hp_Tl cA) "java/lang/IllegalArgumentException" (cd_pic cA ad ca0 σ0) sz (fun u => ∃ ca1, cd_inj ad ca1 ∧ u = cd_pic cA ad ca1 p.1)) (b0.1 - p.2.1) (b0.2 - p.2.2) (hp_A (cd_pic cA ad ca0 σ0) sz) := by
  obtain ⟨hm0, hn0, h⟩ := cd_cks h
  have hM0 : p.2.1 ≤ b0.1 ∧ p.2.2 ≤ b0.2 := ⟨hm0, hn0⟩
  refine ⟨hM0, ?_⟩
  refine hp_ofWx (cc := cX4_readMethod) (maxL := 3) (ret := none) (by decide) rfl (Nat.le_of_ble_eq_true rfl) ?_
  intro pp ee ss mm bb mt cd ls cx hsz hw hl hno
  have hl : lv_has ls 3 [(0, .ref (ad 4 0))] := hl
  refine W.widen (k := b0.1 - b0.1) (n := b0.2 - b0.2) (Nat.zero_le _) (Nat.zero_le _) ?_
  have J123 : ∀ (ca : Nat → Nat) (hj : cd_inj ad ca) (σ : cd_S) (b : cd_B) (l1 : Int64) (H : Heap) (locs : List Loc) (ls : Array Slot), b.1 ≤ b0.1 → b.2 ≤ b0.2 → p.2.1 ≤ b.1 → p.2.2 ≤ b.2 → f_X4_readMethod_J123 n σ b l1 = some (Sum.inr p) → hp_w D vwCl (hp_Tl cA) E (hp_A (cd_pic cA ad ca0 σ0) sz) ss H locs (cd_pic cA ad ca σ) → lv_has ls 3 [(0, .ref (ad 4 0)), (1, .long l1)] → W pp l ee ({ frames := 417, cells := b0.1 - p.2.1, slots := b0.2 - p.2.2, locals := 10707 }) ss mm [.ref (ad 4 0)].toArray bb mt cd H locs (b0.1 - b.1) (b0.2 - b.2) (vx_MQ bb (hp_Qv D vwCl (hp_Tl cA) sz (cd_pic cA ad ca0 σ0) (fun _ => False)) (hp_XQ D vwCl (hp_Tl cA) "java/lang/IllegalArgumentException" (cd_pic cA ad ca0 σ0) sz (fun u => ∃ ca1, cd_inj ad ca1 ∧ u = cd_pic cA ad ca1 p.1)) [.ref (ad 4 0)].toArray ss (b0.1 - p.2.1) (b0.2 - p.2.2) (hp_A (cd_pic cA ad ca0 σ0) sz)) (F0 mm 123 ls []) := by
    intro ca hj σ b l1 H locs ls hb1 hb2 hf1 hf2 h hw hl
    refine lv_aload_n cx.1 cx.2.1 dX4_readMethod_123 rfl (lv_at hl 0 rfl) ?_
    obtain ⟨u1, e_u1, h⟩ := md_ob h
    have hb_u1 : u1 < 60 := (cd_dps e_u1).2
    refine cd_gP (o2 := 9) (u := u1) (o := 4) (k := 7) (f := 135) hj cx hw hic4 rfl ⟨by decide, rfl, by decide, rfl⟩ rfl (by decide) rfl e_u1 (List.mem_cons_of_mem _ cm_836) dX4_readMethod_124 ?_
    refine lv_lload_n cx.1 cx.2.1 dX4_readMethod_127 rfl (lv_at hl 1 rfl) ?_
    obtain ⟨σ2, e_σ2, h⟩ := md_ob h
    refine cd_pJ (o := 9) (k := 5) (f := 293) hj cx hw hic9 rfl ⟨by decide, rfl, by decide, rfl⟩ tyX9_ok nmX9 rfl (show _ < 60 by omega) rfl (List.mem_cons_of_mem _ cm_952) rfl e_σ2 dX4_readMethod_128 (fun H locs hw => ?_)
    refine lv_aload_n cx.1 cx.2.1 dX4_readMethod_131 rfl (lv_at hl 0 rfl) ?_
    refine cd_gO (o2 := 2) (e2 := 0) (o := 4) (k := 1) (f := 129) hj cx hw hic4 rfl ⟨by decide, rfl, by decide, rfl⟩ rfl (by decide) ⟨rfl, rfl⟩ (List.mem_cons_of_mem _ cm_722) dX4_readMethod_132 ?_
    refine lv_aload_n cx.1 cx.2.1 dX4_readMethod_135 rfl (lv_at hl 0 rfl) ?_
    refine cd_gI (o := 4) (k := 9) (f := 137) hj cx hw hic4 rfl ⟨by decide, rfl, by decide, rfl⟩ rfl (by decide) (List.mem_cons_of_mem _ cm_734) dX4_readMethod_136 ?_
    refine lv_aload_n cx.1 cx.2.1 dX4_readMethod_139 rfl (lv_at hl 0 rfl) ?_
    obtain ⟨u3, e_u3, h⟩ := md_ob h
    have hb_u3 : u3 < 60 := (cd_dps e_u3).2
    refine cd_gP (o2 := 9) (u := u3) (o := 4) (k := 7) (f := 135) hj cx hw hic4 rfl ⟨by decide, rfl, by decide, rfl⟩ rfl (by decide) rfl e_u3 (List.mem_cons_of_mem _ cm_836) dX4_readMethod_140 ?_
    refine cd_gI (o := 9) (k := 0) (f := 288) hj cx hw hic9 rfl ⟨by decide, rfl, by decide, rfl⟩ rfl (show _ < 60 by omega) (List.mem_cons_of_mem _ cm_750) dX4_readMethod_143 ?_
    obtain ⟨p4, e_p4, h⟩ := md_ob h
    refine hp_callVv (As := [.int (cI σ2 137 0), .int (cI σ2 288 u3)]) (rest := []) cx hw (kc_X2_addMethod l D cA E _ ad _ hj oq sgq sgv hE n σ2 ((cI σ2 137 0)) ((cI σ2 288 u3)) p4 e_p4) (cwV 2 cx.2.2.2.2.2.1 (cd_giV cm_953 cm_954 cm_955 cm_167 cm_956) rfl rfl rfl hdc_X2_addMethod ⟨Nat.le_of_ble_eq_true rfl, Nat.le_of_ble_eq_true rfl⟩) (cd_atO hj (by decide) (by decide)) rfl rfl hl.1 rfl (Nat.le_of_ble_eq_true rfl) dX4_readMethod_146 ⟨by (try dsimp only); omega, by (try dsimp only); omega⟩ (fun u H locs hp hw => ?_)
    obtain ⟨ca, hj, rfl⟩ := hp
    refine lv_aload_n cx.1 cx.2.1 dX4_readMethod_149 rfl (lv_at hl 0 rfl) ?_
    refine cd_gO (o2 := 10) (e2 := 0) (o := 4) (k := 0) (f := 128) hj cx hw hic4 rfl ⟨by decide, rfl, by decide, rfl⟩ rfl (by decide) ⟨rfl, rfl⟩ (List.mem_cons_of_mem _ cm_658) dX4_readMethod_150 ?_
    obtain ⟨p5, e_p5, h⟩ := md_ob h
    refine hp_callVv (As := []) (rest := []) cx hw (kc_X10_advance l D cA E _ ad _ hj oq sgq sgv hE n p4.2  p5 e_p5) (cwV 0 cx.2.2.2.2.2.1 (cd_giV cm_670 cm_671 cm_672 cm_301 cm_673) rfl rfl rfl hdc_X10_advance ⟨Nat.le_of_ble_eq_true rfl, Nat.le_of_ble_eq_true rfl⟩) (cd_atO hj (by decide) (by decide)) rfl rfl hl.1 rfl (Nat.le_of_ble_eq_true rfl) dX4_readMethod_153 ⟨by (try dsimp only); omega, by (try dsimp only); omega⟩ (fun u H locs hp hw => ?_)
    obtain ⟨ca, hj, rfl⟩ := hp
    refine lv_aload_n cx.1 cx.2.1 dX4_readMethod_156 rfl (lv_at hl 0 rfl) ?_
    refine lv_bipush (v := 61) cx.1 cx.2.1 dX4_readMethod_157 (by decide) ?_
    obtain ⟨q6, e_q6, h⟩ := md_ob h
    obtain ⟨hm7, hn7, h⟩ := cd_cks h
    have hM7 : p.2.1 ≤ (Sum.elim (fun (p : Int32 × cd_S × cd_B) => p.2.2) (fun (t : cd_S × cd_B) => t.2) q6).1 ∧ p.2.2 ≤ (Sum.elim (fun (p : Int32 × cd_S × cd_B) => p.2.2) (fun (t : cd_S × cd_B) => t.2) q6).2 := ⟨hm7, hn7⟩
    cases q6 with
    | inr t6 =>
      obtain rfl : t6 = p := Sum.inr.inj (Option.some.inj h)
      have hlx6 := (kx_X4_pass l D cA E sz ad _ hj oq sgq sgv hE hX n p5.2 b (61 : Int32) t6 e_q6).1
      exact hp_callQv (As := [.int 61]) (rest := []) cx hw hno ((kx_X4_pass l D cA E _ ad _ hj oq sgq sgv hE hX n p5.2 b (61 : Int32) t6 e_q6).2) (cwV 1 cx.2.2.2.2.2.1 (cd_giV cm_714 cm_715 cm_716 cm_663 cm_717) rfl rfl rfl hdc_X4_pass ⟨Nat.le_of_ble_eq_true rfl, Nat.le_of_ble_eq_true rfl⟩) (cd_atO hj (by decide) (by decide)) rfl rfl hl.1 rfl (Nat.le_of_ble_eq_true rfl) dX4_readMethod_159 ⟨by (try dsimp only); omega, by (try dsimp only); omega⟩ (by omega) (by omega)
    | inl p6 =>
      have hle6 := (kc_X4_pass l D cA E sz ad _ hj oq sgq sgv hE n p5.2 b (61 : Int32) p6 e_q6).1
      have hM10007 : p.2.1 ≤ p6.2.2.1 ∧ p.2.2 ≤ p6.2.2.2 := hM7
      have h := cd_inl h
      refine hp_callVv (As := [.int 61]) (rest := []) cx hw ((kc_X4_pass l D cA E _ ad _ hj oq sgq sgv hE n p5.2 b (61 : Int32) p6 e_q6).2) (cwV 1 cx.2.2.2.2.2.1 (cd_giV cm_714 cm_715 cm_716 cm_663 cm_717) rfl rfl rfl hdc_X4_pass ⟨Nat.le_of_ble_eq_true rfl, Nat.le_of_ble_eq_true rfl⟩) (cd_atO hj (by decide) (by decide)) rfl rfl hl.1 rfl (Nat.le_of_ble_eq_true rfl) dX4_readMethod_159 ⟨by (try dsimp only); omega, by (try dsimp only); omega⟩ (fun u H locs hp hw => ?_)
      obtain ⟨ca, hj, rfl⟩ := hp
      refine W.widen (k := b0.1 - p6.2.2.1) (n := b0.2 - p6.2.2.2) (by omega) (by omega) ?_
      refine lv_aload_n cx.1 cx.2.1 dX4_readMethod_162 rfl (lv_at hl 0 rfl) ?_
      refine lv_iconst (v := 1) cx.1 cx.2.1 dX4_readMethod_163 (by decide) ?_
      obtain ⟨q8, e_q8, h⟩ := md_ob h
      obtain ⟨hm9, hn9, h⟩ := cd_cks h
      have hM9 : p.2.1 ≤ (Sum.elim (fun (p : Int32 × cd_S × cd_B) => p.2.2) (fun (t : cd_S × cd_B) => t.2) q8).1 ∧ p.2.2 ≤ (Sum.elim (fun (p : Int32 × cd_S × cd_B) => p.2.2) (fun (t : cd_S × cd_B) => t.2) q8).2 := ⟨hm9, hn9⟩
      cases q8 with
      | inr t8 =>
        obtain rfl : t8 = p := Sum.inr.inj (Option.some.inj h)
        have hlx8 := (ox_X4_readExpression l D cA E ad oq sgq sgv hE hX n sz _ hj p6.2.1 (p6.2.2) (1 : Int32) t8 e_q8).1
        exact hp_callQv (As := [.int 1]) (rest := []) cx hw hno ((ox_X4_readExpression l D cA E ad oq sgq sgv hE hX n _ _ hj p6.2.1 (p6.2.2) (1 : Int32) t8 e_q8).2) (cwV 1 cx.2.2.2.2.2.1 (cd_giV cm_760 cm_761 cm_762 cm_663 cm_763) rfl rfl rfl hdc_X4_readExpression ⟨by (try dsimp only); omega, by (try dsimp only); omega⟩) (cd_atO hj (by decide) (by decide)) rfl rfl hl.1 rfl (Nat.le_of_ble_eq_true rfl) dX4_readMethod_164 ⟨by (try dsimp only); omega, by (try dsimp only); omega⟩ (by omega) (by omega)
      | inl p8 =>
        have hle8 := (oc_X4_readExpression l D cA E ad oq sgq sgv hE n sz _ hj p6.2.1 (p6.2.2) (1 : Int32) p8 e_q8).1
        have hM10009 : p.2.1 ≤ p8.2.2.1 ∧ p.2.2 ≤ p8.2.2.2 := hM9
        have h := cd_inl h
        refine hp_callVv (As := [.int 1]) (rest := []) cx hw ((oc_X4_readExpression l D cA E ad oq sgq sgv hE n _ _ hj p6.2.1 (p6.2.2) (1 : Int32) p8 e_q8).2) (cwV 1 cx.2.2.2.2.2.1 (cd_giV cm_760 cm_761 cm_762 cm_663 cm_763) rfl rfl rfl hdc_X4_readExpression ⟨by (try dsimp only); omega, by (try dsimp only); omega⟩) (cd_atO hj (by decide) (by decide)) rfl rfl hl.1 rfl (Nat.le_of_ble_eq_true rfl) dX4_readMethod_164 ⟨by (try dsimp only); omega, by (try dsimp only); omega⟩ (fun u H locs hp hw => ?_)
        obtain ⟨ca, hj, rfl⟩ := hp
        refine W.widen (k := b0.1 - p8.2.2.1) (n := b0.2 - p8.2.2.2) (by omega) (by omega) ?_
        refine lv_aload_n cx.1 cx.2.1 dX4_readMethod_167 rfl (lv_at hl 0 rfl) ?_
        obtain ⟨u10, e_u10, h⟩ := md_ob h
        have hb_u10 : u10 < 60 := (cd_dps e_u10).2
        refine cd_gP (o2 := 9) (u := u10) (o := 4) (k := 7) (f := 135) hj cx hw hic4 rfl ⟨by decide, rfl, by decide, rfl⟩ rfl (by decide) rfl e_u10 (List.mem_cons_of_mem _ cm_836) dX4_readMethod_168 ?_
        refine lv_bipush (v := 28) cx.1 cx.2.1 dX4_readMethod_171 (by decide) ?_
        refine lv_iconst (v := 0) cx.1 cx.2.1 dX4_readMethod_173 (by decide) ?_
        refine lv_iconst (v := 0) cx.1 cx.2.1 dX4_readMethod_174 (by decide) ?_
        obtain ⟨p11, e_p11, h⟩ := md_ob h
        obtain ⟨hm12, hn12, h⟩ := cd_cks h
        have hM12 : p.2.1 ≤ p11.2.2.1 ∧ p.2.2 ≤ p11.2.2.2 := ⟨hm12, hn12⟩
        have hle11 := (kc_X9_emit l D cA E sz ad _ hj oq sgq sgv hE n p8.2.1 (p8.2.2) u10 (28 : Int32) (0 : Int32) (0 : Int32) (show _ < 60 by omega) p11 e_p11).1
        refine hp_callVv (As := [.int 28, .int 0, .int 0]) (rest := []) cx hw ((kc_X9_emit l D cA E _ ad _ hj oq sgq sgv hE n p8.2.1 (p8.2.2) u10 (28 : Int32) (0 : Int32) (0 : Int32) (show _ < 60 by omega) p11 e_p11).2) (cwV 3 cx.2.2.2.2.2.1 (cd_giV cm_781 cm_782 cm_783 cm_114 cm_784) rfl rfl rfl hdc_X9_emit ⟨Nat.le_of_ble_eq_true rfl, Nat.le_of_ble_eq_true rfl⟩) (cd_atO hj (by decide) (show _ < 60 by omega)) rfl rfl hl.1 rfl (Nat.le_of_ble_eq_true rfl) dX4_readMethod_175 ⟨by (try dsimp only); omega, by (try dsimp only); omega⟩ (fun u H locs hp hw => ?_)
        obtain ⟨ca, hj, rfl⟩ := hp
        refine W.widen (k := b0.1 - p11.2.2.1) (n := b0.2 - p11.2.2.2) (by omega) (by omega) ?_
        refine lv_aload_n cx.1 cx.2.1 dX4_readMethod_178 rfl (lv_at hl 0 rfl) ?_
        refine lv_iconst (v := 0) cx.1 cx.2.1 dX4_readMethod_179 (by decide) ?_
        obtain ⟨σ13, e_σ13, h⟩ := md_ob h
        refine cd_pI (o := 4) (k := 6) (f := 134) hj cx hw hic4 rfl ⟨by decide, rfl, by decide, rfl⟩ tyX4_ok nmX4 rfl (by decide) rfl (List.mem_cons_of_mem _ cm_728) rfl e_σ13 dX4_readMethod_180 (fun H locs hw => ?_)
        refine lv_aload_n cx.1 cx.2.1 dX4_readMethod_183 rfl (lv_at hl 0 rfl) ?_
        refine lv_bipush (v := 59) cx.1 cx.2.1 dX4_readMethod_184 (by decide) ?_
        obtain ⟨q14, e_q14, h⟩ := md_ob h
        obtain ⟨hm15, hn15, h⟩ := cd_cks h
        have hM15 : p.2.1 ≤ (Sum.elim (fun (p : Int32 × cd_S × cd_B) => p.2.2) (fun (t : cd_S × cd_B) => t.2) q14).1 ∧ p.2.2 ≤ (Sum.elim (fun (p : Int32 × cd_S × cd_B) => p.2.2) (fun (t : cd_S × cd_B) => t.2) q14).2 := ⟨hm15, hn15⟩
        cases q14 with
        | inr t14 =>
          obtain rfl : t14 = p := Sum.inr.inj (Option.some.inj h)
          have hlx14 := (kx_X4_pass l D cA E sz ad _ hj oq sgq sgv hE hX n σ13 (p11.2.2) (59 : Int32) t14 e_q14).1
          exact hp_callQv (As := [.int 59]) (rest := []) cx hw hno ((kx_X4_pass l D cA E _ ad _ hj oq sgq sgv hE hX n σ13 (p11.2.2) (59 : Int32) t14 e_q14).2) (cwV 1 cx.2.2.2.2.2.1 (cd_giV cm_714 cm_715 cm_716 cm_663 cm_717) rfl rfl rfl hdc_X4_pass ⟨Nat.le_of_ble_eq_true rfl, Nat.le_of_ble_eq_true rfl⟩) (cd_atO hj (by decide) (by decide)) rfl rfl hl.1 rfl (Nat.le_of_ble_eq_true rfl) dX4_readMethod_186 ⟨by (try dsimp only); omega, by (try dsimp only); omega⟩ (by omega) (by omega)
        | inl p14 =>
          have hle14 := (kc_X4_pass l D cA E sz ad _ hj oq sgq sgv hE n σ13 (p11.2.2) (59 : Int32) p14 e_q14).1
          have hM10015 : p.2.1 ≤ p14.2.2.1 ∧ p.2.2 ≤ p14.2.2.2 := hM15
          have h := cd_inl h
          refine hp_callVv (As := [.int 59]) (rest := []) cx hw ((kc_X4_pass l D cA E _ ad _ hj oq sgq sgv hE n σ13 (p11.2.2) (59 : Int32) p14 e_q14).2) (cwV 1 cx.2.2.2.2.2.1 (cd_giV cm_714 cm_715 cm_716 cm_663 cm_717) rfl rfl rfl hdc_X4_pass ⟨Nat.le_of_ble_eq_true rfl, Nat.le_of_ble_eq_true rfl⟩) (cd_atO hj (by decide) (by decide)) rfl rfl hl.1 rfl (Nat.le_of_ble_eq_true rfl) dX4_readMethod_186 ⟨by (try dsimp only); omega, by (try dsimp only); omega⟩ (fun u H locs hp hw => ?_)
          obtain ⟨ca, hj, rfl⟩ := hp
          refine W.widen (k := b0.1 - p14.2.2.1) (n := b0.2 - p14.2.2.2) (by omega) (by omega) ?_
          exact nomatch Option.some.inj h
  have J85 : ∀ (ca : Nat → Nat) (hj : cd_inj ad ca) (σ : cd_S) (b : cd_B) (l1 : Int64) (t0 : Int32) (H : Heap) (locs : List Loc) (ls : Array Slot), b.1 ≤ b0.1 → b.2 ≤ b0.2 → p.2.1 ≤ b.1 → p.2.2 ≤ b.2 → f_X4_readMethod_J85 n σ b l1 t0 = some (Sum.inr p) → hp_w D vwCl (hp_Tl cA) E (hp_A (cd_pic cA ad ca0 σ0) sz) ss H locs (cd_pic cA ad ca σ) → lv_has ls 3 [(0, .ref (ad 4 0)), (1, .long l1)] → W pp l ee ({ frames := 417, cells := b0.1 - p.2.1, slots := b0.2 - p.2.2, locals := 10707 }) ss mm [.ref (ad 4 0)].toArray bb mt cd H locs (b0.1 - b.1) (b0.2 - b.2) (vx_MQ bb (hp_Qv D vwCl (hp_Tl cA) sz (cd_pic cA ad ca0 σ0) (fun _ => False)) (hp_XQ D vwCl (hp_Tl cA) "java/lang/IllegalArgumentException" (cd_pic cA ad ca0 σ0) sz (fun u => ∃ ca1, cd_inj ad ca1 ∧ u = cd_pic cA ad ca1 p.1)) [.ref (ad 4 0)].toArray ss (b0.1 - p.2.1) (b0.2 - p.2.2) (hp_A (cd_pic cA ad ca0 σ0) sz)) (F0 mm 85 ls [.int t0, .ref (ad 4 0)]) := by
    intro ca hj σ b l1 t0 H locs ls hb1 hb2 hf1 hf2 h hw hl
    obtain ⟨q16, e_q16, h⟩ := md_ob h
    obtain ⟨hm17, hn17, h⟩ := cd_cks h
    have hM17 : p.2.1 ≤ (Sum.elim (fun (p : Int32 × cd_S × cd_B) => p.2.2) (fun (t : cd_S × cd_B) => t.2) q16).1 ∧ p.2.2 ≤ (Sum.elim (fun (p : Int32 × cd_S × cd_B) => p.2.2) (fun (t : cd_S × cd_B) => t.2) q16).2 := ⟨hm17, hn17⟩
    cases q16 with
    | inr t16 =>
      obtain rfl : t16 = p := Sum.inr.inj (Option.some.inj h)
      have hlx16 := (kx_X4_need l D cA E sz ad _ hj oq sgq sgv hE hX n σ b t0 t16 e_q16).1
      exact hp_callQv (As := [.int t0]) (rest := []) cx hw hno ((kx_X4_need l D cA E _ ad _ hj oq sgq sgv hE hX n σ b t0 t16 e_q16).2) (cwV 1 cx.2.2.2.2.2.1 (cd_giV cm_666 cm_667 cm_668 cm_663 cm_669) rfl rfl rfl hdc_X4_need ⟨Nat.le_of_ble_eq_true rfl, Nat.le_of_ble_eq_true rfl⟩) (cd_atO hj (by decide) (by decide)) rfl rfl hl.1 rfl (Nat.le_of_ble_eq_true rfl) dX4_readMethod_85 ⟨by (try dsimp only); omega, by (try dsimp only); omega⟩ (by omega) (by omega)
    | inl p16 =>
      have hle16 := (kc_X4_need l D cA E sz ad _ hj oq sgq sgv hE n σ b t0 p16 e_q16).1
      have hM10017 : p.2.1 ≤ p16.2.2.1 ∧ p.2.2 ≤ p16.2.2.2 := hM17
      have h := cd_inl h
      refine hp_callVv (As := [.int t0]) (rest := []) cx hw ((kc_X4_need l D cA E _ ad _ hj oq sgq sgv hE n σ b t0 p16 e_q16).2) (cwV 1 cx.2.2.2.2.2.1 (cd_giV cm_666 cm_667 cm_668 cm_663 cm_669) rfl rfl rfl hdc_X4_need ⟨Nat.le_of_ble_eq_true rfl, Nat.le_of_ble_eq_true rfl⟩) (cd_atO hj (by decide) (by decide)) rfl rfl hl.1 rfl (Nat.le_of_ble_eq_true rfl) dX4_readMethod_85 ⟨by (try dsimp only); omega, by (try dsimp only); omega⟩ (fun u H locs hp hw => ?_)
      obtain ⟨ca, hj, rfl⟩ := hp
      refine W.widen (k := b0.1 - p16.2.2.1) (n := b0.2 - p16.2.2.2) (by omega) (by omega) ?_
      refine lv_aload_n cx.1 cx.2.1 dX4_readMethod_88 rfl (lv_at hl 0 rfl) ?_
      refine cd_gO (o2 := 2) (e2 := 0) (o := 4) (k := 1) (f := 129) hj cx hw hic4 rfl ⟨by decide, rfl, by decide, rfl⟩ rfl (by decide) ⟨rfl, rfl⟩ (List.mem_cons_of_mem _ cm_722) dX4_readMethod_89 ?_
      refine lv_aload_n cx.1 cx.2.1 dX4_readMethod_92 rfl (lv_at hl 0 rfl) ?_
      refine cd_gI (o := 4) (k := 9) (f := 137) hj cx hw hic4 rfl ⟨by decide, rfl, by decide, rfl⟩ rfl (by decide) (List.mem_cons_of_mem _ cm_734) dX4_readMethod_93 ?_
      refine lv_lload_n cx.1 cx.2.1 dX4_readMethod_96 rfl (lv_at hl 1 rfl) ?_
      refine lv_aload_n cx.1 cx.2.1 dX4_readMethod_97 rfl (lv_at hl 0 rfl) ?_
      obtain ⟨u18, e_u18, h⟩ := md_ob h
      have hb_u18 : u18 < 60 := (cd_dps e_u18).2
      refine cd_gP (o2 := 9) (u := u18) (o := 4) (k := 7) (f := 135) hj cx hw hic4 rfl ⟨by decide, rfl, by decide, rfl⟩ rfl (by decide) rfl e_u18 (List.mem_cons_of_mem _ cm_836) dX4_readMethod_98 ?_
      refine cd_gI (o := 9) (k := 6) (f := 294) hj cx hw hic9 rfl ⟨by decide, rfl, by decide, rfl⟩ rfl (show _ < 60 by omega) (List.mem_cons_of_mem _ cm_806) dX4_readMethod_101 ?_
      obtain ⟨p19, e_p19, h⟩ := md_ob h
      refine hp_callVi (As := [.int (cI p16.2.1 137 0), .long l1, .int (cI p16.2.1 294 u18)]) (rest := []) cx hw (kc_X2_ownMethod l D cA E _ ad _ hj oq sgq sgv hE n p16.2.1 ((cI p16.2.1 137 0)) l1 ((cI p16.2.1 294 u18)) p19 e_p19) (cwV 3 cx.2.2.2.2.2.1 (cd_giV cm_950 cm_398 cm_399 cm_167 cm_400) rfl rfl rfl hdc_X2_ownMethod ⟨Nat.le_of_ble_eq_true rfl, Nat.le_of_ble_eq_true rfl⟩) (cd_atO hj (by decide) (by decide)) rfl rfl hl.1 rfl (Nat.le_of_ble_eq_true rfl) dX4_readMethod_104 ⟨by (try dsimp only); omega, by (try dsimp only); omega⟩ (fun r u H locs hp hw => ?_)
      obtain ⟨rfl, ca, hj, rfl⟩ := hp
      refine lv_iconst (v := (-1)) cx.1 cx.2.1 dX4_readMethod_107 (by decide) ?_
      refine lv_icmp_eq (tgt := 123) cx.1 cx.2.1 dX4_readMethod_108 (by decide) (fun c108 => ?_) (fun c108 => ?_)
      · have h := md_ip c108 h
        exact J123 _ hj p19.2 (p16.2.2) l1 _ _ _ (by omega) (by omega) (by omega) (by omega) h hw (lv_sub hl [0, 1] rfl)
      · have h := md_in c108 h
        refine lv_aload_n cx.1 cx.2.1 dX4_readMethod_111 rfl (lv_at hl 0 rfl) ?_
        refine lv_iconst (v := 2) cx.1 cx.2.1 dX4_readMethod_112 (by decide) ?_
        refine lv_aload_n cx.1 cx.2.1 dX4_readMethod_113 rfl (lv_at hl 0 rfl) ?_
        obtain ⟨u20, e_u20, h⟩ := md_ob h
        have hb_u20 : u20 < 60 := (cd_dps e_u20).2
        refine cd_gP (o2 := 9) (u := u20) (o := 4) (k := 7) (f := 135) hj cx hw hic4 rfl ⟨by decide, rfl, by decide, rfl⟩ rfl (by decide) rfl e_u20 (List.mem_cons_of_mem _ cm_836) dX4_readMethod_114 ?_
        refine cd_gI (o := 9) (k := 4) (f := 292) hj cx hw hic9 rfl ⟨by decide, rfl, by decide, rfl⟩ rfl (show _ < 60 by omega) (List.mem_cons_of_mem _ cm_951) dX4_readMethod_117 ?_
        obtain ⟨q21, e_q21, h⟩ := md_ob h
        obtain ⟨hm22, hn22, h⟩ := cd_cks h
        have hM22 : p.2.1 ≤ (Sum.elim (fun (p : Int32 × cd_S × cd_B) => p.2.2) (fun (t : cd_S × cd_B) => t.2) q21).1 ∧ p.2.2 ≤ (Sum.elim (fun (p : Int32 × cd_S × cd_B) => p.2.2) (fun (t : cd_S × cd_B) => t.2) q21).2 := ⟨hm22, hn22⟩
        cases q21 with
        | inr t21 =>
          obtain rfl : t21 = p := Sum.inr.inj (Option.some.inj h)
          have hlx21 := (kx_X4_refuse l D cA E sz ad _ hj oq sgq sgv hE hX n p19.2 (p16.2.2) (2 : Int32) ((cI p19.2 292 u20)) t21 e_q21).1
          exact hp_callQv (As := [.int 2, .int (cI p19.2 292 u20)]) (rest := []) cx hw hno ((kx_X4_refuse l D cA E _ ad _ hj oq sgq sgv hE hX n p19.2 (p16.2.2) (2 : Int32) ((cI p19.2 292 u20)) t21 e_q21).2) (cwV 2 cx.2.2.2.2.2.1 (cd_giV cm_660 cm_661 cm_662 cm_663 cm_664) rfl rfl rfl hdc_X4_refuse ⟨Nat.le_of_ble_eq_true rfl, Nat.le_of_ble_eq_true rfl⟩) (cd_atO hj (by decide) (by decide)) rfl rfl hl.1 rfl (Nat.le_of_ble_eq_true rfl) dX4_readMethod_120 ⟨by (try dsimp only); omega, by (try dsimp only); omega⟩ (by omega) (by omega)
        | inl p21 =>
          have hle21 := (kc_X4_refuse l D cA E sz ad _ hj oq sgq sgv hE n p19.2 (p16.2.2) (2 : Int32) ((cI p19.2 292 u20)) p21 e_q21).1
          have hM10022 : p.2.1 ≤ p21.2.2.1 ∧ p.2.2 ≤ p21.2.2.2 := hM22
          have h := cd_inl h
          refine hp_callVv (As := [.int 2, .int (cI p19.2 292 u20)]) (rest := []) cx hw ((kc_X4_refuse l D cA E _ ad _ hj oq sgq sgv hE n p19.2 (p16.2.2) (2 : Int32) ((cI p19.2 292 u20)) p21 e_q21).2) (cwV 2 cx.2.2.2.2.2.1 (cd_giV cm_660 cm_661 cm_662 cm_663 cm_664) rfl rfl rfl hdc_X4_refuse ⟨Nat.le_of_ble_eq_true rfl, Nat.le_of_ble_eq_true rfl⟩) (cd_atO hj (by decide) (by decide)) rfl rfl hl.1 rfl (Nat.le_of_ble_eq_true rfl) dX4_readMethod_120 ⟨by (try dsimp only); omega, by (try dsimp only); omega⟩ (fun u H locs hp hw => ?_)
          obtain ⟨ca, hj, rfl⟩ := hp
          refine W.widen (k := b0.1 - p21.2.2.1) (n := b0.2 - p21.2.2.2) (by omega) (by omega) ?_
          exact J123 _ hj p21.2.1 (p21.2.2) l1 _ _ _ (by omega) (by omega) (by omega) (by omega) h hw (lv_sub hl [0, 1] rfl)
  have J22 : ∀ (ca : Nat → Nat) (hj : cd_inj ad ca) (σ : cd_S) (b : cd_B) (t0 : Int32) (H : Heap) (locs : List Loc) (ls : Array Slot), b.1 ≤ b0.1 → b.2 ≤ b0.2 → p.2.1 ≤ b.1 → p.2.2 ≤ b.2 → f_X4_readMethod_J22 n σ b t0 = some (Sum.inr p) → hp_w D vwCl (hp_Tl cA) E (hp_A (cd_pic cA ad ca0 σ0) sz) ss H locs (cd_pic cA ad ca σ) → lv_has ls 3 [(0, .ref (ad 4 0))] → W pp l ee ({ frames := 417, cells := b0.1 - p.2.1, slots := b0.2 - p.2.2, locals := 10707 }) ss mm [.ref (ad 4 0)].toArray bb mt cd H locs (b0.1 - b.1) (b0.2 - b.2) (vx_MQ bb (hp_Qv D vwCl (hp_Tl cA) sz (cd_pic cA ad ca0 σ0) (fun _ => False)) (hp_XQ D vwCl (hp_Tl cA) "java/lang/IllegalArgumentException" (cd_pic cA ad ca0 σ0) sz (fun u => ∃ ca1, cd_inj ad ca1 ∧ u = cd_pic cA ad ca1 p.1)) [.ref (ad 4 0)].toArray ss (b0.1 - p.2.1) (b0.2 - p.2.2) (hp_A (cd_pic cA ad ca0 σ0) sz)) (F0 mm 22 ls [.int t0, .ref (ad 4 0)]) := by
    intro ca hj σ b t0 H locs ls hb1 hb2 hf1 hf2 h hw hl
    obtain ⟨q23, e_q23, h⟩ := md_ob h
    obtain ⟨hm24, hn24, h⟩ := cd_cks h
    have hM24 : p.2.1 ≤ (Sum.elim (fun (p : Int32 × cd_S × cd_B) => p.2.2) (fun (t : cd_S × cd_B) => t.2) q23).1 ∧ p.2.2 ≤ (Sum.elim (fun (p : Int32 × cd_S × cd_B) => p.2.2) (fun (t : cd_S × cd_B) => t.2) q23).2 := ⟨hm24, hn24⟩
    cases q23 with
    | inr t23 =>
      obtain rfl : t23 = p := Sum.inr.inj (Option.some.inj h)
      have hlx23 := (kx_X4_room l D cA E sz ad _ hj oq sgq sgv hE hX n σ b t0 t23 e_q23).1
      exact hp_callQv (As := [.int t0]) (rest := []) cx hw hno ((kx_X4_room l D cA E _ ad _ hj oq sgq sgv hE hX n σ b t0 t23 e_q23).2) (cwV 1 cx.2.2.2.2.2.1 (cd_giV cm_691 cm_692 cm_693 cm_663 cm_694) rfl rfl rfl hdc_X4_room ⟨Nat.le_of_ble_eq_true rfl, Nat.le_of_ble_eq_true rfl⟩) (cd_atO hj (by decide) (by decide)) rfl rfl hl.1 rfl (Nat.le_of_ble_eq_true rfl) dX4_readMethod_22 ⟨by (try dsimp only); omega, by (try dsimp only); omega⟩ (by omega) (by omega)
    | inl p23 =>
      have hle23 := (kc_X4_room l D cA E sz ad _ hj oq sgq sgv hE n σ b t0 p23 e_q23).1
      have hM10024 : p.2.1 ≤ p23.2.2.1 ∧ p.2.2 ≤ p23.2.2.2 := hM24
      have h := cd_inl h
      refine hp_callVv (As := [.int t0]) (rest := []) cx hw ((kc_X4_room l D cA E _ ad _ hj oq sgq sgv hE n σ b t0 p23 e_q23).2) (cwV 1 cx.2.2.2.2.2.1 (cd_giV cm_691 cm_692 cm_693 cm_663 cm_694) rfl rfl rfl hdc_X4_room ⟨Nat.le_of_ble_eq_true rfl, Nat.le_of_ble_eq_true rfl⟩) (cd_atO hj (by decide) (by decide)) rfl rfl hl.1 rfl (Nat.le_of_ble_eq_true rfl) dX4_readMethod_22 ⟨by (try dsimp only); omega, by (try dsimp only); omega⟩ (fun u H locs hp hw => ?_)
      obtain ⟨ca, hj, rfl⟩ := hp
      refine W.widen (k := b0.1 - p23.2.2.1) (n := b0.2 - p23.2.2.2) (by omega) (by omega) ?_
      refine lv_aload_n cx.1 cx.2.1 dX4_readMethod_25 rfl (lv_at hl 0 rfl) ?_
      refine lv_aload_n cx.1 cx.2.1 dX4_readMethod_26 rfl (lv_at hl 0 rfl) ?_
      refine lv_iconst (v := 0) cx.1 cx.2.1 dX4_readMethod_27 (by decide) ?_
      obtain ⟨q25, e_q25, h⟩ := md_ob h
      obtain ⟨hm26, hn26, h⟩ := cd_cks h
      have hM26 : p.2.1 ≤ (Sum.elim (fun (p : Nat × cd_S × cd_B) => p.2.2) (fun (t : cd_S × cd_B) => t.2) q25).1 ∧ p.2.2 ≤ (Sum.elim (fun (p : Nat × cd_S × cd_B) => p.2.2) (fun (t : cd_S × cd_B) => t.2) q25).2 := ⟨hm26, hn26⟩
      cases q25 with
      | inr t25 =>
        obtain rfl : t25 = p := Sum.inr.inj (Option.some.inj h)
        have hlx25 := (kx_X4_openUnit l D cA E sz ad _ hj oq sgq sgv hE hX n p23.2.1 (p23.2.2) (0 : Int32) t25 e_q25).1
        exact hp_callQv (As := [.int 0]) (rest := [.ref (ad 4 0)]) cx hw hno ((kx_X4_openUnit l D cA E _ ad _ hj oq sgq sgv hE hX n p23.2.1 (p23.2.2) (0 : Int32) t25 e_q25).2) (cwV 1 cx.2.2.2.2.2.1 (cd_giV cm_807 cm_808 cm_809 cm_663 cm_810) rfl rfl rfl hdc_X4_openUnit ⟨Nat.le_of_ble_eq_true rfl, Nat.le_of_ble_eq_true rfl⟩) (cd_atO hj (by decide) (by decide)) rfl rfl hl.1 rfl (Nat.le_of_ble_eq_true rfl) dX4_readMethod_28 ⟨by (try dsimp only); omega, by (try dsimp only); omega⟩ (by omega) (by omega)
      | inl p25 =>
        have hle25 := (kc_X4_openUnit l D cA E sz ad _ hj oq sgq sgv hE n p23.2.1 (p23.2.2) (0 : Int32) p25 e_q25).1
        have hM10026 : p.2.1 ≤ p25.2.2.1 ∧ p.2.2 ≤ p25.2.2.2 := hM26
        have h := cd_inl h
        refine hp_callVr (As := [.int 0]) (rest := [.ref (ad 4 0)]) cx hw ((kc_X4_openUnit l D cA E _ ad _ hj oq sgq sgv hE n p23.2.1 (p23.2.2) (0 : Int32) p25 e_q25).2) (cwV 1 cx.2.2.2.2.2.1 (cd_giV cm_807 cm_808 cm_809 cm_663 cm_810) rfl rfl rfl hdc_X4_openUnit ⟨Nat.le_of_ble_eq_true rfl, Nat.le_of_ble_eq_true rfl⟩) (cd_atO hj (by decide) (by decide)) rfl rfl hl.1 rfl (Nat.le_of_ble_eq_true rfl) dX4_readMethod_28 ⟨by (try dsimp only); omega, by (try dsimp only); omega⟩ (fun r u H locs hp hw => ?_)
        obtain ⟨⟨hb_p25, rfl⟩, ca, hj, rfl⟩ := hp
        refine W.widen (k := b0.1 - p25.2.2.1) (n := b0.2 - p25.2.2.2) (by omega) (by omega) ?_
        obtain ⟨σ27, e_σ27, h⟩ := md_ob h
        refine cd_pP (u := p25.1) (o2 := 9) (o := 4) (k := 7) (f := 135) hj cx hw hic4 rfl ⟨by decide, rfl, by decide, rfl⟩ tyX4_ok nmX4 rfl (by decide) rfl (List.mem_cons_of_mem _ cm_836) rfl rfl e_σ27 dX4_readMethod_31 (fun H locs hw => ?_)
        refine lv_aload_n cx.1 cx.2.1 dX4_readMethod_34 rfl (lv_at hl 0 rfl) ?_
        refine lv_aload_n cx.1 cx.2.1 dX4_readMethod_35 rfl (lv_at hl 0 rfl) ?_
        obtain ⟨u28, e_u28, h⟩ := md_ob h
        have hb_u28 : u28 < 60 := (cd_dps e_u28).2
        refine cd_gP (o2 := 9) (u := u28) (o := 4) (k := 7) (f := 135) hj cx hw hic4 rfl ⟨by decide, rfl, by decide, rfl⟩ rfl (by decide) rfl e_u28 (List.mem_cons_of_mem _ cm_836) dX4_readMethod_36 ?_
        obtain ⟨σ29, e_σ29, h⟩ := md_ob h
        refine cd_pP (u := u28) (o2 := 9) (o := 4) (k := 8) (f := 136) hj cx hw hic4 rfl ⟨by decide, rfl, by decide, rfl⟩ tyX4_ok nmX4 rfl (by decide) rfl (List.mem_cons_of_mem _ cm_749) rfl rfl e_σ29 dX4_readMethod_39 (fun H locs hw => ?_)
        refine lv_aload_n cx.1 cx.2.1 dX4_readMethod_42 rfl (lv_at hl 0 rfl) ?_
        refine cd_gO (o2 := 10) (e2 := 0) (o := 4) (k := 0) (f := 128) hj cx hw hic4 rfl ⟨by decide, rfl, by decide, rfl⟩ rfl (by decide) ⟨rfl, rfl⟩ (List.mem_cons_of_mem _ cm_658) dX4_readMethod_43 ?_
        refine cd_gJ (o := 10) (k := 10) (f := 330) hj cx hw hic10 rfl ⟨by decide, rfl, by decide, rfl⟩ rfl (by decide) (List.mem_cons_of_mem _ cm_695) dX4_readMethod_46 ?_
        refine lv_lstore_n (lv' := [(1, .long (cJ σ29 330 0)), (0, .ref (ad 4 0))]) cx.1 cx.2.1 dX4_readMethod_49 rfl hl (by decide) rfl (fun ls hl => ?_)
        refine lv_aload_n cx.1 cx.2.1 dX4_readMethod_50 rfl (lv_at hl 1 rfl) ?_
        refine cd_gO (o2 := 10) (e2 := 0) (o := 4) (k := 0) (f := 128) hj cx hw hic4 rfl ⟨by decide, rfl, by decide, rfl⟩ rfl (by decide) ⟨rfl, rfl⟩ (List.mem_cons_of_mem _ cm_658) dX4_readMethod_51 ?_
        obtain ⟨p30, e_p30, h⟩ := md_ob h
        refine hp_callVv (As := []) (rest := []) cx hw (kc_X10_advance l D cA E _ ad _ hj oq sgq sgv hE n σ29  p30 e_p30) (cwV 0 cx.2.2.2.2.2.1 (cd_giV cm_670 cm_671 cm_672 cm_301 cm_673) rfl rfl rfl hdc_X10_advance ⟨Nat.le_of_ble_eq_true rfl, Nat.le_of_ble_eq_true rfl⟩) (cd_atO hj (by decide) (by decide)) rfl rfl hl.1 rfl (Nat.le_of_ble_eq_true rfl) dX4_readMethod_54 ⟨by (try dsimp only); omega, by (try dsimp only); omega⟩ (fun u H locs hp hw => ?_)
        obtain ⟨ca, hj, rfl⟩ := hp
        refine lv_aload_n cx.1 cx.2.1 dX4_readMethod_57 rfl (lv_at hl 1 rfl) ?_
        refine lv_bipush (v := 40) cx.1 cx.2.1 dX4_readMethod_58 (by decide) ?_
        obtain ⟨q31, e_q31, h⟩ := md_ob h
        obtain ⟨hm32, hn32, h⟩ := cd_cks h
        have hM32 : p.2.1 ≤ (Sum.elim (fun (p : Int32 × cd_S × cd_B) => p.2.2) (fun (t : cd_S × cd_B) => t.2) q31).1 ∧ p.2.2 ≤ (Sum.elim (fun (p : Int32 × cd_S × cd_B) => p.2.2) (fun (t : cd_S × cd_B) => t.2) q31).2 := ⟨hm32, hn32⟩
        cases q31 with
        | inr t31 =>
          obtain rfl : t31 = p := Sum.inr.inj (Option.some.inj h)
          have hlx31 := (kx_X4_pass l D cA E sz ad _ hj oq sgq sgv hE hX n p30.2 (p25.2.2) (40 : Int32) t31 e_q31).1
          exact hp_callQv (As := [.int 40]) (rest := []) cx hw hno ((kx_X4_pass l D cA E _ ad _ hj oq sgq sgv hE hX n p30.2 (p25.2.2) (40 : Int32) t31 e_q31).2) (cwV 1 cx.2.2.2.2.2.1 (cd_giV cm_714 cm_715 cm_716 cm_663 cm_717) rfl rfl rfl hdc_X4_pass ⟨Nat.le_of_ble_eq_true rfl, Nat.le_of_ble_eq_true rfl⟩) (cd_atO hj (by decide) (by decide)) rfl rfl hl.1 rfl (Nat.le_of_ble_eq_true rfl) dX4_readMethod_60 ⟨by (try dsimp only); omega, by (try dsimp only); omega⟩ (by omega) (by omega)
        | inl p31 =>
          have hle31 := (kc_X4_pass l D cA E sz ad _ hj oq sgq sgv hE n p30.2 (p25.2.2) (40 : Int32) p31 e_q31).1
          have hM10032 : p.2.1 ≤ p31.2.2.1 ∧ p.2.2 ≤ p31.2.2.2 := hM32
          have h := cd_inl h
          refine hp_callVv (As := [.int 40]) (rest := []) cx hw ((kc_X4_pass l D cA E _ ad _ hj oq sgq sgv hE n p30.2 (p25.2.2) (40 : Int32) p31 e_q31).2) (cwV 1 cx.2.2.2.2.2.1 (cd_giV cm_714 cm_715 cm_716 cm_663 cm_717) rfl rfl rfl hdc_X4_pass ⟨Nat.le_of_ble_eq_true rfl, Nat.le_of_ble_eq_true rfl⟩) (cd_atO hj (by decide) (by decide)) rfl rfl hl.1 rfl (Nat.le_of_ble_eq_true rfl) dX4_readMethod_60 ⟨by (try dsimp only); omega, by (try dsimp only); omega⟩ (fun u H locs hp hw => ?_)
          obtain ⟨ca, hj, rfl⟩ := hp
          refine W.widen (k := b0.1 - p31.2.2.1) (n := b0.2 - p31.2.2.2) (by omega) (by omega) ?_
          refine lv_aload_n cx.1 cx.2.1 dX4_readMethod_63 rfl (lv_at hl 1 rfl) ?_
          obtain ⟨q33, e_q33, h⟩ := md_ob h
          obtain ⟨hm34, hn34, h⟩ := cd_cks h
          have hM34 : p.2.1 ≤ (Sum.elim (fun (p : Int32 × cd_S × cd_B) => p.2.2) (fun (t : cd_S × cd_B) => t.2) q33).1 ∧ p.2.2 ≤ (Sum.elim (fun (p : Int32 × cd_S × cd_B) => p.2.2) (fun (t : cd_S × cd_B) => t.2) q33).2 := ⟨hm34, hn34⟩
          cases q33 with
          | inr t33 =>
            obtain rfl : t33 = p := Sum.inr.inj (Option.some.inj h)
            have hlx33 := (kx_X4_readParameters l D cA E sz ad _ hj oq sgq sgv hE hX n p31.2.1 (p31.2.2)  t33 e_q33).1
            exact hp_callQv (As := []) (rest := []) cx hw hno ((kx_X4_readParameters l D cA E _ ad _ hj oq sgq sgv hE hX n p31.2.1 (p31.2.2)  t33 e_q33).2) (cwV 0 cx.2.2.2.2.2.1 (cd_giV cm_811 cm_812 cm_813 cm_663 cm_814) rfl rfl rfl hdc_X4_readParameters ⟨Nat.le_of_ble_eq_true rfl, Nat.le_of_ble_eq_true rfl⟩) (cd_atO hj (by decide) (by decide)) rfl rfl hl.1 rfl (Nat.le_of_ble_eq_true rfl) dX4_readMethod_64 ⟨by (try dsimp only); omega, by (try dsimp only); omega⟩ (by omega) (by omega)
          | inl p33 =>
            have hle33 := (kc_X4_readParameters l D cA E sz ad _ hj oq sgq sgv hE n p31.2.1 (p31.2.2)  p33 e_q33).1
            have hM10034 : p.2.1 ≤ p33.2.2.1 ∧ p.2.2 ≤ p33.2.2.2 := hM34
            have h := cd_inl h
            refine hp_callVv (As := []) (rest := []) cx hw ((kc_X4_readParameters l D cA E _ ad _ hj oq sgq sgv hE n p31.2.1 (p31.2.2)  p33 e_q33).2) (cwV 0 cx.2.2.2.2.2.1 (cd_giV cm_811 cm_812 cm_813 cm_663 cm_814) rfl rfl rfl hdc_X4_readParameters ⟨Nat.le_of_ble_eq_true rfl, Nat.le_of_ble_eq_true rfl⟩) (cd_atO hj (by decide) (by decide)) rfl rfl hl.1 rfl (Nat.le_of_ble_eq_true rfl) dX4_readMethod_64 ⟨by (try dsimp only); omega, by (try dsimp only); omega⟩ (fun u H locs hp hw => ?_)
            obtain ⟨ca, hj, rfl⟩ := hp
            refine W.widen (k := b0.1 - p33.2.2.1) (n := b0.2 - p33.2.2.2) (by omega) (by omega) ?_
            refine lv_aload_n cx.1 cx.2.1 dX4_readMethod_67 rfl (lv_at hl 1 rfl) ?_
            refine lv_aload_n cx.1 cx.2.1 dX4_readMethod_68 rfl (lv_at hl 1 rfl) ?_
            refine cd_gO (o2 := 10) (e2 := 0) (o := 4) (k := 0) (f := 128) hj cx hw hic4 rfl ⟨by decide, rfl, by decide, rfl⟩ rfl (by decide) ⟨rfl, rfl⟩ (List.mem_cons_of_mem _ cm_658) dX4_readMethod_69 ?_
            refine cd_gI (o := 10) (k := 8) (f := 328) hj cx hw hic10 rfl ⟨by decide, rfl, by decide, rfl⟩ rfl (by decide) (List.mem_cons_of_mem _ cm_665) dX4_readMethod_72 ?_
            refine lv_bipush (v := 41) cx.1 cx.2.1 dX4_readMethod_75 (by decide) ?_
            refine lv_icmp_ne (tgt := 84) cx.1 cx.2.1 dX4_readMethod_77 (by decide) (fun c77 => ?_) (fun c77 => ?_)
            · have h := md_in c77 h
              refine lv_iconst (v := 0) cx.1 cx.2.1 dX4_readMethod_84 (by decide) ?_
              exact J85 _ hj p33.2.1 (p33.2.2) ((cJ σ29 330 0)) 0 _ _ _ (by omega) (by omega) (by omega) (by omega) h hw (lv_sub hl [1, 0] rfl)
            · have h := md_ip c77 h
              refine lv_iconst (v := 1) cx.1 cx.2.1 dX4_readMethod_80 (by decide) ?_
              refine lv_goto (tgt := 85) cx.1 cx.2.1 dX4_readMethod_81 (by decide) ?_
              exact J85 _ hj p33.2.1 (p33.2.2) ((cJ σ29 330 0)) 1 _ _ _ (by omega) (by omega) (by omega) (by omega) h hw (lv_sub hl [1, 0] rfl)
  refine lv_aload_n cx.1 cx.2.1 dX4_readMethod_0 rfl (lv_at hl 0 rfl) ?_
  refine lv_aload_n cx.1 cx.2.1 dX4_readMethod_1 rfl (lv_at hl 0 rfl) ?_
  refine cd_gO (o2 := 2) (e2 := 0) (o := 4) (k := 1) (f := 129) hj cx hw hic4 rfl ⟨by decide, rfl, by decide, rfl⟩ rfl (by decide) ⟨rfl, rfl⟩ (List.mem_cons_of_mem _ cm_722) dX4_readMethod_2 ?_
  refine lv_aload_n cx.1 cx.2.1 dX4_readMethod_5 rfl (lv_at hl 0 rfl) ?_
  refine cd_gI (o := 4) (k := 9) (f := 137) hj cx hw hic4 rfl ⟨by decide, rfl, by decide, rfl⟩ rfl (by decide) (List.mem_cons_of_mem _ cm_734) dX4_readMethod_6 ?_
  obtain ⟨p35, e_p35, h⟩ := md_ob h
  refine hp_callVi (As := [.int (cI σ0 137 0)]) (rest := [.ref (ad 4 0)]) cx hw (kc_X2_methodCount l D cA E _ ad _ hj oq sgq sgv hE n σ0 ((cI σ0 137 0)) p35 e_p35) (cwV 1 cx.2.2.2.2.2.1 (cd_giV cm_946 cm_947 cm_948 cm_167 cm_949) rfl rfl rfl hdc_X2_methodCount ⟨Nat.le_of_ble_eq_true rfl, Nat.le_of_ble_eq_true rfl⟩) (cd_atO hj (by decide) (by decide)) rfl rfl hl.1 rfl (Nat.le_of_ble_eq_true rfl) dX4_readMethod_9 ⟨by (try dsimp only); omega, by (try dsimp only); omega⟩ (fun r u H locs hp hw => ?_)
  obtain ⟨rfl, ca, hj, rfl⟩ := hp
  refine lv_bipush (v := 12) cx.1 cx.2.1 dX4_readMethod_12 (by decide) ?_
  refine lv_icmp_ge (tgt := 21) cx.1 cx.2.1 dX4_readMethod_14 (by decide) (fun c14 => ?_) (fun c14 => ?_)
  · have h := md_ip c14 h
    refine lv_iconst (v := 0) cx.1 cx.2.1 dX4_readMethod_21 (by decide) ?_
    exact J22 _ hj p35.2 b0 0 _ _ _ (by omega) (by omega) (by omega) (by omega) h hw (lv_sub hl [0] rfl)
  · have h := md_in c14 h
    refine lv_iconst (v := 1) cx.1 cx.2.1 dX4_readMethod_17 (by decide) ?_
    refine lv_goto (tgt := 22) cx.1 cx.2.1 dX4_readMethod_18 (by decide) ?_
    exact J22 _ hj p35.2 b0 1 _ _ _ (by omega) (by omega) (by omega) (by omega) h hw (lv_sub hl [0] rfl)
set_option maxHeartbeats 4000000 in
set_option maxRecDepth 100000 in
theorem kx_X4_readSuper (l : Launch) (D : va_G) (cA : Nat → ClassId) (E : hp_N) (sz : Nat) (ad : Nat → Nat → Nat) (ca0 : Nat → Nat) (hj : cd_inj ad ca0) (oq sgq sgv : Nat) (hE : cd_E E oq sgq sgv) (hX : cd_X l E) (n : Nat) (σ0 : cd_S) (b0 : cd_B) (p : (cd_S × cd_B)) (h : f_X4_readSuper n σ0 b0 = some (Sum.inr p)) : (p.2.1 ≤ b0.1 ∧ p.2.2 ≤ b0.2) ∧ vx_Met l yX4_readSuper (Cond.code yX4_readSuper cX4_readSuper 2 none :: v_CLS) ({ frames := 14, cells := b0.1 - p.2.1, slots := b0.2 - p.2.2, locals := 242 }) (hp_Pc D vwCl (hp_Tl cA) E sz (cd_pic cA ad ca0 σ0) [.ref (ad 4 0)]) (hp_Qv D vwCl (hp_Tl cA) sz (cd_pic cA ad ca0 σ0) (fun _ => False)) (hp_XQ D vwCl (hp_Tl cA) "java/lang/IllegalArgumentException" (cd_pic cA ad ca0 σ0) sz (fun u => ∃ ca1, cd_inj ad ca1 ∧ u = cd_pic cA ad ca1 p.1)) (b0.1 - p.2.1) (b0.2 - p.2.2) (hp_A (cd_pic cA ad ca0 σ0) sz) := by
  obtain ⟨hm0, hn0, h⟩ := cd_cks h
  have hM0 : p.2.1 ≤ b0.1 ∧ p.2.2 ≤ b0.2 := ⟨hm0, hn0⟩
  refine ⟨hM0, ?_⟩
  refine hp_ofWx (cc := cX4_readSuper) (maxL := 2) (ret := none) (by decide) rfl (Nat.le_of_ble_eq_true rfl) ?_
  intro pp ee ss mm bb mt cd ls cx hsz hw hl hno
  have hl : lv_has ls 2 [(0, .ref (ad 4 0))] := hl
  refine W.widen (k := b0.1 - b0.1) (n := b0.2 - b0.2) (Nat.zero_le _) (Nat.zero_le _) ?_
  have J51 : ∀ (ca : Nat → Nat) (hj : cd_inj ad ca) (σ : cd_S) (b : cd_B) (l1 : Int32) (H : Heap) (locs : List Loc) (ls : Array Slot), b.1 ≤ b0.1 → b.2 ≤ b0.2 → p.2.1 ≤ b.1 → p.2.2 ≤ b.2 → f_X4_readSuper_J51 n σ b l1 = some (Sum.inr p) → hp_w D vwCl (hp_Tl cA) E (hp_A (cd_pic cA ad ca0 σ0) sz) ss H locs (cd_pic cA ad ca σ) → lv_has ls 2 [(0, .ref (ad 4 0)), (1, .int l1)] → W pp l ee ({ frames := 14, cells := b0.1 - p.2.1, slots := b0.2 - p.2.2, locals := 242 }) ss mm [.ref (ad 4 0)].toArray bb mt cd H locs (b0.1 - b.1) (b0.2 - b.2) (vx_MQ bb (hp_Qv D vwCl (hp_Tl cA) sz (cd_pic cA ad ca0 σ0) (fun _ => False)) (hp_XQ D vwCl (hp_Tl cA) "java/lang/IllegalArgumentException" (cd_pic cA ad ca0 σ0) sz (fun u => ∃ ca1, cd_inj ad ca1 ∧ u = cd_pic cA ad ca1 p.1)) [.ref (ad 4 0)].toArray ss (b0.1 - p.2.1) (b0.2 - p.2.2) (hp_A (cd_pic cA ad ca0 σ0) sz)) (F0 mm 51 ls []) := by
    intro ca hj σ b l1 H locs ls hb1 hb2 hf1 hf2 h hw hl
    refine lv_aload_n cx.1 cx.2.1 dX4_readSuper_51 rfl (lv_at hl 0 rfl) ?_
    refine cd_gO (o2 := 2) (e2 := 0) (o := 4) (k := 1) (f := 129) hj cx hw hic4 rfl ⟨by decide, rfl, by decide, rfl⟩ rfl (by decide) ⟨rfl, rfl⟩ (List.mem_cons_of_mem _ cm_722) dX4_readSuper_52 ?_
    refine lv_aload_n cx.1 cx.2.1 dX4_readSuper_55 rfl (lv_at hl 0 rfl) ?_
    refine cd_gI (o := 4) (k := 9) (f := 137) hj cx hw hic4 rfl ⟨by decide, rfl, by decide, rfl⟩ rfl (by decide) (List.mem_cons_of_mem _ cm_734) dX4_readSuper_56 ?_
    refine lv_iload_n cx.1 cx.2.1 dX4_readSuper_59 rfl (lv_at hl 1 rfl) ?_
    obtain ⟨p1, e_p1, h⟩ := md_ob h
    refine hp_callVv (As := [.int (cI σ 137 0), .int l1]) (rest := []) cx hw (kc_X2_setSuper l D cA E _ ad _ hj oq sgq sgv hE n σ ((cI σ 137 0)) l1 p1 e_p1) (cwV 2 cx.2.2.2.2.2.1 (cd_giV cm_957 cm_958 cm_959 cm_167 cm_960) rfl rfl rfl hdc_X2_setSuper ⟨Nat.le_of_ble_eq_true rfl, Nat.le_of_ble_eq_true rfl⟩) (cd_atO hj (by decide) (by decide)) rfl rfl hl.1 rfl (Nat.le_of_ble_eq_true rfl) dX4_readSuper_60 ⟨by (try dsimp only); omega, by (try dsimp only); omega⟩ (fun u H locs hp hw => ?_)
    obtain ⟨ca, hj, rfl⟩ := hp
    refine lv_aload_n cx.1 cx.2.1 dX4_readSuper_63 rfl (lv_at hl 0 rfl) ?_
    refine cd_gO (o2 := 10) (e2 := 0) (o := 4) (k := 0) (f := 128) hj cx hw hic4 rfl ⟨by decide, rfl, by decide, rfl⟩ rfl (by decide) ⟨rfl, rfl⟩ (List.mem_cons_of_mem _ cm_658) dX4_readSuper_64 ?_
    obtain ⟨p2, e_p2, h⟩ := md_ob h
    refine hp_callVv (As := []) (rest := []) cx hw (kc_X10_advance l D cA E _ ad _ hj oq sgq sgv hE n p1.2  p2 e_p2) (cwV 0 cx.2.2.2.2.2.1 (cd_giV cm_670 cm_671 cm_672 cm_301 cm_673) rfl rfl rfl hdc_X10_advance ⟨Nat.le_of_ble_eq_true rfl, Nat.le_of_ble_eq_true rfl⟩) (cd_atO hj (by decide) (by decide)) rfl rfl hl.1 rfl (Nat.le_of_ble_eq_true rfl) dX4_readSuper_67 ⟨by (try dsimp only); omega, by (try dsimp only); omega⟩ (fun u H locs hp hw => ?_)
    obtain ⟨ca, hj, rfl⟩ := hp
    exact nomatch Option.some.inj h
  have J39 : ∀ (ca : Nat → Nat) (hj : cd_inj ad ca) (σ : cd_S) (b : cd_B) (l1 : Int32) (H : Heap) (locs : List Loc) (ls : Array Slot), b.1 ≤ b0.1 → b.2 ≤ b0.2 → p.2.1 ≤ b.1 → p.2.2 ≤ b.2 → f_X4_readSuper_J39 n σ b l1 = some (Sum.inr p) → hp_w D vwCl (hp_Tl cA) E (hp_A (cd_pic cA ad ca0 σ0) sz) ss H locs (cd_pic cA ad ca σ) → lv_has ls 2 [(0, .ref (ad 4 0)), (1, .int l1)] → W pp l ee ({ frames := 14, cells := b0.1 - p.2.1, slots := b0.2 - p.2.2, locals := 242 }) ss mm [.ref (ad 4 0)].toArray bb mt cd H locs (b0.1 - b.1) (b0.2 - b.2) (vx_MQ bb (hp_Qv D vwCl (hp_Tl cA) sz (cd_pic cA ad ca0 σ0) (fun _ => False)) (hp_XQ D vwCl (hp_Tl cA) "java/lang/IllegalArgumentException" (cd_pic cA ad ca0 σ0) sz (fun u => ∃ ca1, cd_inj ad ca1 ∧ u = cd_pic cA ad ca1 p.1)) [.ref (ad 4 0)].toArray ss (b0.1 - p.2.1) (b0.2 - p.2.2) (hp_A (cd_pic cA ad ca0 σ0) sz)) (F0 mm 39 ls []) := by
    intro ca hj σ b l1 H locs ls hb1 hb2 hf1 hf2 h hw hl
    refine lv_aload_n cx.1 cx.2.1 dX4_readSuper_39 rfl (lv_at hl 0 rfl) ?_
    refine lv_iconst (v := 3) cx.1 cx.2.1 dX4_readSuper_40 (by decide) ?_
    refine lv_aload_n cx.1 cx.2.1 dX4_readSuper_41 rfl (lv_at hl 0 rfl) ?_
    refine cd_gO (o2 := 10) (e2 := 0) (o := 4) (k := 0) (f := 128) hj cx hw hic4 rfl ⟨by decide, rfl, by decide, rfl⟩ rfl (by decide) ⟨rfl, rfl⟩ (List.mem_cons_of_mem _ cm_658) dX4_readSuper_42 ?_
    refine cd_gI (o := 10) (k := 9) (f := 329) hj cx hw hic10 rfl ⟨by decide, rfl, by decide, rfl⟩ rfl (by decide) (List.mem_cons_of_mem _ cm_659) dX4_readSuper_45 ?_
    obtain ⟨q3, e_q3, h⟩ := md_ob h
    obtain ⟨hm4, hn4, h⟩ := cd_cks h
    have hM4 : p.2.1 ≤ (Sum.elim (fun (p : Int32 × cd_S × cd_B) => p.2.2) (fun (t : cd_S × cd_B) => t.2) q3).1 ∧ p.2.2 ≤ (Sum.elim (fun (p : Int32 × cd_S × cd_B) => p.2.2) (fun (t : cd_S × cd_B) => t.2) q3).2 := ⟨hm4, hn4⟩
    cases q3 with
    | inr t3 =>
      obtain rfl : t3 = p := Sum.inr.inj (Option.some.inj h)
      have hlx3 := (kx_X4_refuse l D cA E sz ad _ hj oq sgq sgv hE hX n σ b (3 : Int32) ((cI σ 329 0)) t3 e_q3).1
      exact hp_callQv (As := [.int 3, .int (cI σ 329 0)]) (rest := []) cx hw hno ((kx_X4_refuse l D cA E _ ad _ hj oq sgq sgv hE hX n σ b (3 : Int32) ((cI σ 329 0)) t3 e_q3).2) (cwV 2 cx.2.2.2.2.2.1 (cd_giV cm_660 cm_661 cm_662 cm_663 cm_664) rfl rfl rfl hdc_X4_refuse ⟨Nat.le_of_ble_eq_true rfl, Nat.le_of_ble_eq_true rfl⟩) (cd_atO hj (by decide) (by decide)) rfl rfl hl.1 rfl (Nat.le_of_ble_eq_true rfl) dX4_readSuper_48 ⟨by (try dsimp only); omega, by (try dsimp only); omega⟩ (by omega) (by omega)
    | inl p3 =>
      have hle3 := (kc_X4_refuse l D cA E sz ad _ hj oq sgq sgv hE n σ b (3 : Int32) ((cI σ 329 0)) p3 e_q3).1
      have hM10004 : p.2.1 ≤ p3.2.2.1 ∧ p.2.2 ≤ p3.2.2.2 := hM4
      have h := cd_inl h
      refine hp_callVv (As := [.int 3, .int (cI σ 329 0)]) (rest := []) cx hw ((kc_X4_refuse l D cA E _ ad _ hj oq sgq sgv hE n σ b (3 : Int32) ((cI σ 329 0)) p3 e_q3).2) (cwV 2 cx.2.2.2.2.2.1 (cd_giV cm_660 cm_661 cm_662 cm_663 cm_664) rfl rfl rfl hdc_X4_refuse ⟨Nat.le_of_ble_eq_true rfl, Nat.le_of_ble_eq_true rfl⟩) (cd_atO hj (by decide) (by decide)) rfl rfl hl.1 rfl (Nat.le_of_ble_eq_true rfl) dX4_readSuper_48 ⟨by (try dsimp only); omega, by (try dsimp only); omega⟩ (fun u H locs hp hw => ?_)
      obtain ⟨ca, hj, rfl⟩ := hp
      refine W.widen (k := b0.1 - p3.2.2.1) (n := b0.2 - p3.2.2.2) (by omega) (by omega) ?_
      exact J51 _ hj p3.2.1 (p3.2.2) l1 _ _ _ (by omega) (by omega) (by omega) (by omega) h hw (lv_sub hl [0, 1] rfl)
  refine lv_aload_n cx.1 cx.2.1 dX4_readSuper_0 rfl (lv_at hl 0 rfl) ?_
  refine cd_gO (o2 := 10) (e2 := 0) (o := 4) (k := 0) (f := 128) hj cx hw hic4 rfl ⟨by decide, rfl, by decide, rfl⟩ rfl (by decide) ⟨rfl, rfl⟩ (List.mem_cons_of_mem _ cm_658) dX4_readSuper_1 ?_
  obtain ⟨p5, e_p5, h⟩ := md_ob h
  refine hp_callVv (As := []) (rest := []) cx hw (kc_X10_advance l D cA E _ ad _ hj oq sgq sgv hE n σ0  p5 e_p5) (cwV 0 cx.2.2.2.2.2.1 (cd_giV cm_670 cm_671 cm_672 cm_301 cm_673) rfl rfl rfl hdc_X10_advance ⟨Nat.le_of_ble_eq_true rfl, Nat.le_of_ble_eq_true rfl⟩) (cd_atO hj (by decide) (by decide)) rfl rfl hl.1 rfl (Nat.le_of_ble_eq_true rfl) dX4_readSuper_4 ⟨by (try dsimp only); omega, by (try dsimp only); omega⟩ (fun u H locs hp hw => ?_)
  obtain ⟨ca, hj, rfl⟩ := hp
  refine lv_aload_n cx.1 cx.2.1 dX4_readSuper_7 rfl (lv_at hl 0 rfl) ?_
  obtain ⟨q6, e_q6, h⟩ := md_ob h
  obtain ⟨hm7, hn7, h⟩ := cd_cks h
  have hM7 : p.2.1 ≤ (Sum.elim (fun (p : Int32 × cd_S × cd_B) => p.2.2) (fun (t : cd_S × cd_B) => t.2) q6).1 ∧ p.2.2 ≤ (Sum.elim (fun (p : Int32 × cd_S × cd_B) => p.2.2) (fun (t : cd_S × cd_B) => t.2) q6).2 := ⟨hm7, hn7⟩
  cases q6 with
  | inr t6 =>
    obtain rfl : t6 = p := Sum.inr.inj (Option.some.inj h)
    have hlx6 := (kx_X4_needName l D cA E sz ad _ hj oq sgq sgv hE hX n p5.2 b0  t6 e_q6).1
    exact hp_callQv (As := []) (rest := []) cx hw hno ((kx_X4_needName l D cA E _ ad _ hj oq sgq sgv hE hX n p5.2 b0  t6 e_q6).2) (cwV 0 cx.2.2.2.2.2.1 (cd_giV cm_687 cm_688 cm_689 cm_663 cm_690) rfl rfl rfl hdc_X4_needName ⟨Nat.le_of_ble_eq_true rfl, Nat.le_of_ble_eq_true rfl⟩) (cd_atO hj (by decide) (by decide)) rfl rfl hl.1 rfl (Nat.le_of_ble_eq_true rfl) dX4_readSuper_8 ⟨by (try dsimp only); omega, by (try dsimp only); omega⟩ (by omega) (by omega)
  | inl p6 =>
    have hle6 := (kc_X4_needName l D cA E sz ad _ hj oq sgq sgv hE n p5.2 b0  p6 e_q6).1
    have hM10007 : p.2.1 ≤ p6.2.2.1 ∧ p.2.2 ≤ p6.2.2.2 := hM7
    have h := cd_inl h
    refine hp_callVv (As := []) (rest := []) cx hw ((kc_X4_needName l D cA E _ ad _ hj oq sgq sgv hE n p5.2 b0  p6 e_q6).2) (cwV 0 cx.2.2.2.2.2.1 (cd_giV cm_687 cm_688 cm_689 cm_663 cm_690) rfl rfl rfl hdc_X4_needName ⟨Nat.le_of_ble_eq_true rfl, Nat.le_of_ble_eq_true rfl⟩) (cd_atO hj (by decide) (by decide)) rfl rfl hl.1 rfl (Nat.le_of_ble_eq_true rfl) dX4_readSuper_8 ⟨by (try dsimp only); omega, by (try dsimp only); omega⟩ (fun u H locs hp hw => ?_)
    obtain ⟨ca, hj, rfl⟩ := hp
    refine W.widen (k := b0.1 - p6.2.2.1) (n := b0.2 - p6.2.2.2) (by omega) (by omega) ?_
    refine lv_aload_n cx.1 cx.2.1 dX4_readSuper_11 rfl (lv_at hl 0 rfl) ?_
    refine cd_gO (o2 := 2) (e2 := 0) (o := 4) (k := 1) (f := 129) hj cx hw hic4 rfl ⟨by decide, rfl, by decide, rfl⟩ rfl (by decide) ⟨rfl, rfl⟩ (List.mem_cons_of_mem _ cm_722) dX4_readSuper_12 ?_
    refine lv_aload_n cx.1 cx.2.1 dX4_readSuper_15 rfl (lv_at hl 0 rfl) ?_
    refine cd_gO (o2 := 10) (e2 := 0) (o := 4) (k := 0) (f := 128) hj cx hw hic4 rfl ⟨by decide, rfl, by decide, rfl⟩ rfl (by decide) ⟨rfl, rfl⟩ (List.mem_cons_of_mem _ cm_658) dX4_readSuper_16 ?_
    refine cd_gJ (o := 10) (k := 10) (f := 330) hj cx hw hic10 rfl ⟨by decide, rfl, by decide, rfl⟩ rfl (by decide) (List.mem_cons_of_mem _ cm_695) dX4_readSuper_19 ?_
    obtain ⟨p8, e_p8, h⟩ := md_ob h
    refine hp_callVi (As := [.long (cJ p6.2.1 330 0)]) (rest := []) cx hw (kc_X2_findModule l D cA E _ ad _ hj oq sgq sgv hE n p6.2.1 ((cJ p6.2.1 330 0)) p8 e_p8) (cwV 1 cx.2.2.2.2.2.1 (cd_giV cm_823 cm_824 cm_825 cm_167 cm_826) rfl rfl rfl hdc_X2_findModule ⟨Nat.le_of_ble_eq_true rfl, Nat.le_of_ble_eq_true rfl⟩) (cd_atO hj (by decide) (by decide)) rfl rfl hl.1 rfl (Nat.le_of_ble_eq_true rfl) dX4_readSuper_22 ⟨by (try dsimp only); omega, by (try dsimp only); omega⟩ (fun r u H locs hp hw => ?_)
    obtain ⟨rfl, ca, hj, rfl⟩ := hp
    refine lv_istore_n (lv' := [(1, .int p8.1), (0, .ref (ad 4 0))]) cx.1 cx.2.1 dX4_readSuper_25 rfl hl (by decide) rfl (fun ls hl => ?_)
    refine lv_iload_n cx.1 cx.2.1 dX4_readSuper_26 rfl (lv_at hl 0 rfl) ?_
    refine lv_iconst (v := (-1)) cx.1 cx.2.1 dX4_readSuper_27 (by decide) ?_
    refine lv_icmp_eq (tgt := 39) cx.1 cx.2.1 dX4_readSuper_28 (by decide) (fun c28 => ?_) (fun c28 => ?_)
    · have h := md_ip c28 h
      exact J39 _ hj p8.2 (p6.2.2) (p8.1) _ _ _ (by omega) (by omega) (by omega) (by omega) h hw (lv_sub hl [1, 0] rfl)
    · have h := md_in c28 h
      refine lv_iload_n cx.1 cx.2.1 dX4_readSuper_31 rfl (lv_at hl 0 rfl) ?_
      refine lv_aload_n cx.1 cx.2.1 dX4_readSuper_32 rfl (lv_at hl 1 rfl) ?_
      refine cd_gI (o := 4) (k := 9) (f := 137) hj cx hw hic4 rfl ⟨by decide, rfl, by decide, rfl⟩ rfl (by decide) (List.mem_cons_of_mem _ cm_734) dX4_readSuper_33 ?_
      refine lv_icmp_ne (tgt := 51) cx.1 cx.2.1 dX4_readSuper_36 (by decide) (fun c36 => ?_) (fun c36 => ?_)
      · have h := md_in c36 h
        exact J51 _ hj p8.2 (p6.2.2) (p8.1) _ _ _ (by omega) (by omega) (by omega) (by omega) h hw (lv_sub hl [1, 0] rfl)
      · have h := md_ip c36 h
        exact J39 _ hj p8.2 (p6.2.2) (p8.1) _ _ _ (by omega) (by omega) (by omega) (by omega) h hw (lv_sub hl [1, 0] rfl)
set_option maxHeartbeats 4000000 in
set_option maxRecDepth 100000 in
theorem kx_X4_readModule (l : Launch) (D : va_G) (cA : Nat → ClassId) (E : hp_N) (sz : Nat) (ad : Nat → Nat → Nat) (ca0 : Nat → Nat) (hj : cd_inj ad ca0) (oq sgq sgv : Nat) (hE : cd_E E oq sgq sgv) (hX : cd_X l E) (n : Nat) (σ0 : cd_S) (b0 : cd_B) (p : (cd_S × cd_B)) (h : f_X4_readModule n σ0 b0 = some (Sum.inr p)) : (p.2.1 ≤ b0.1 ∧ p.2.2 ≤ b0.2) ∧ vx_Met l yX4_readModule (Cond.code yX4_readModule cX4_readModule 2 none :: v_CLS) ({ frames := 418, cells := b0.1 - p.2.1, slots := b0.2 - p.2.2, locals := 10729 }) (hp_Pc D vwCl (hp_Tl cA) E sz (cd_pic cA ad ca0 σ0) [.ref (ad 4 0)]) (hp_Qv D vwCl (hp_Tl cA) sz (cd_pic cA ad ca0 σ0) (fun _ => False)) (hp_XQ D vwCl (hp_Tl cA) "java/lang/IllegalArgumentException" (cd_pic cA ad ca0 σ0) sz (fun u => ∃ ca1, cd_inj ad ca1 ∧ u = cd_pic cA ad ca1 p.1)) (b0.1 - p.2.1) (b0.2 - p.2.2) (hp_A (cd_pic cA ad ca0 σ0) sz) := by
  obtain ⟨hm0, hn0, h⟩ := cd_cks h
  have hM0 : p.2.1 ≤ b0.1 ∧ p.2.2 ≤ b0.2 := ⟨hm0, hn0⟩
  refine ⟨hM0, ?_⟩
  refine hp_ofWx (cc := cX4_readModule) (maxL := 2) (ret := none) (by decide) rfl (Nat.le_of_ble_eq_true rfl) ?_
  intro pp ee ss mm bb mt cd ls cx hsz hw hl hno
  have hl : lv_has ls 2 [(0, .ref (ad 4 0))] := hl
  refine W.widen (k := b0.1 - b0.1) (n := b0.2 - b0.2) (Nat.zero_le _) (Nat.zero_le _) ?_
  have J123 : ∀ (ca : Nat → Nat) (hj : cd_inj ad ca) (σ : cd_S) (b : cd_B) (H : Heap) (locs : List Loc) (ls : Array Slot), b.1 ≤ b0.1 → b.2 ≤ b0.2 → p.2.1 ≤ b.1 → p.2.2 ≤ b.2 → f_X4_readModule_J123 n σ b = some (Sum.inr p) → hp_w D vwCl (hp_Tl cA) E (hp_A (cd_pic cA ad ca0 σ0) sz) ss H locs (cd_pic cA ad ca σ) → lv_has ls 2 [(0, .ref (ad 4 0))] → W pp l ee ({ frames := 418, cells := b0.1 - p.2.1, slots := b0.2 - p.2.2, locals := 10729 }) ss mm [.ref (ad 4 0)].toArray bb mt cd H locs (b0.1 - b.1) (b0.2 - b.2) (vx_MQ bb (hp_Qv D vwCl (hp_Tl cA) sz (cd_pic cA ad ca0 σ0) (fun _ => False)) (hp_XQ D vwCl (hp_Tl cA) "java/lang/IllegalArgumentException" (cd_pic cA ad ca0 σ0) sz (fun u => ∃ ca1, cd_inj ad ca1 ∧ u = cd_pic cA ad ca1 p.1)) [.ref (ad 4 0)].toArray ss (b0.1 - p.2.1) (b0.2 - p.2.2) (hp_A (cd_pic cA ad ca0 σ0) sz)) (F0 mm 123 ls []) := by
    intro ca hj σ b H locs ls hb1 hb2 hf1 hf2 h hw hl
    refine lv_aload_n cx.1 cx.2.1 dX4_readModule_123 rfl (lv_at hl 0 rfl) ?_
    refine lv_bipush (v := 123) cx.1 cx.2.1 dX4_readModule_124 (by decide) ?_
    obtain ⟨q1, e_q1, h⟩ := md_ob h
    obtain ⟨hm2, hn2, h⟩ := cd_cks h
    have hM2 : p.2.1 ≤ (Sum.elim (fun (p : Int32 × cd_S × cd_B) => p.2.2) (fun (t : cd_S × cd_B) => t.2) q1).1 ∧ p.2.2 ≤ (Sum.elim (fun (p : Int32 × cd_S × cd_B) => p.2.2) (fun (t : cd_S × cd_B) => t.2) q1).2 := ⟨hm2, hn2⟩
    cases q1 with
    | inr t1 =>
      obtain rfl : t1 = p := Sum.inr.inj (Option.some.inj h)
      have hlx1 := (kx_X4_pass l D cA E sz ad _ hj oq sgq sgv hE hX n σ b (123 : Int32) t1 e_q1).1
      exact hp_callQv (As := [.int 123]) (rest := []) cx hw hno ((kx_X4_pass l D cA E _ ad _ hj oq sgq sgv hE hX n σ b (123 : Int32) t1 e_q1).2) (cwV 1 cx.2.2.2.2.2.1 (cd_giV cm_714 cm_715 cm_716 cm_663 cm_717) rfl rfl rfl hdc_X4_pass ⟨Nat.le_of_ble_eq_true rfl, Nat.le_of_ble_eq_true rfl⟩) (cd_atO hj (by decide) (by decide)) rfl rfl hl.1 rfl (Nat.le_of_ble_eq_true rfl) dX4_readModule_126 ⟨by (try dsimp only); omega, by (try dsimp only); omega⟩ (by omega) (by omega)
    | inl p1 =>
      have hle1 := (kc_X4_pass l D cA E sz ad _ hj oq sgq sgv hE n σ b (123 : Int32) p1 e_q1).1
      have hM10002 : p.2.1 ≤ p1.2.2.1 ∧ p.2.2 ≤ p1.2.2.2 := hM2
      have h := cd_inl h
      refine hp_callVv (As := [.int 123]) (rest := []) cx hw ((kc_X4_pass l D cA E _ ad _ hj oq sgq sgv hE n σ b (123 : Int32) p1 e_q1).2) (cwV 1 cx.2.2.2.2.2.1 (cd_giV cm_714 cm_715 cm_716 cm_663 cm_717) rfl rfl rfl hdc_X4_pass ⟨Nat.le_of_ble_eq_true rfl, Nat.le_of_ble_eq_true rfl⟩) (cd_atO hj (by decide) (by decide)) rfl rfl hl.1 rfl (Nat.le_of_ble_eq_true rfl) dX4_readModule_126 ⟨by (try dsimp only); omega, by (try dsimp only); omega⟩ (fun u H locs hp hw => ?_)
      obtain ⟨ca, hj, rfl⟩ := hp
      refine W.widen (k := b0.1 - p1.2.2.1) (n := b0.2 - p1.2.2.2) (by omega) (by omega) ?_
      refine lv_iconst (v := 0) cx.1 cx.2.1 dX4_readModule_129 (by decide) ?_
      refine lv_istore_n (lv' := [(1, .int 0), (0, .ref (ad 4 0))]) cx.1 cx.2.1 dX4_readModule_130 rfl hl (by decide) rfl (fun ls hl => ?_)
      have L131 : ∀ (j : Nat) (ca : Nat → Nat) (hj : cd_inj ad ca) (σ : cd_S) (b : cd_B) (l1 : Int32) (q : (((Int32 × cd_S × cd_B) ⊕ (cd_S × cd_B)) ⊕ (cd_S × cd_B × Int32))) (H : Heap) (locs : List Loc) (ls : Array Slot), b.1 ≤ b0.1 → b.2 ≤ b0.2 → p.2.1 ≤ b.1 → p.2.2 ≤ b.2 → p.2.1 ≤ (Sum.elim (fun (q : ((Int32 × cd_S × cd_B) ⊕ (cd_S × cd_B))) => Sum.elim (fun (p : (Int32 × cd_S × cd_B)) => p.2.2) (fun (t : cd_S × cd_B) => t.2) q) (fun (q : cd_S × cd_B × Int32) => q.2.1) q).1 → p.2.2 ≤ (Sum.elim (fun (q : ((Int32 × cd_S × cd_B) ⊕ (cd_S × cd_B))) => Sum.elim (fun (p : (Int32 × cd_S × cd_B)) => p.2.2) (fun (t : cd_S × cd_B) => t.2) q) (fun (q : cd_S × cd_B × Int32) => q.2.1) q).2 → f_X4_readModule_L131 n j σ b l1 = some q → hp_w D vwCl (hp_Tl cA) E (hp_A (cd_pic cA ad ca0 σ0) sz) ss H locs (cd_pic cA ad ca σ) → lv_has ls 2 [(0, .ref (ad 4 0)), (1, .int l1)] → (∀ t, q = Sum.inr t → (∀ (ca : Nat → Nat) (hj : cd_inj ad ca) (H : Heap) (locs : List Loc) (ls : Array Slot), t.2.1.1 ≤ b0.1 → t.2.1.2 ≤ b0.2 → hp_w D vwCl (hp_Tl cA) E (hp_A (cd_pic cA ad ca0 σ0) sz) ss H locs (cd_pic cA ad ca t.1) → lv_has ls 2 [(0, .ref (ad 4 0))] → W pp l ee ({ frames := 418, cells := b0.1 - p.2.1, slots := b0.2 - p.2.2, locals := 10729 }) ss mm [.ref (ad 4 0)].toArray bb mt cd H locs (b0.1 - t.2.1.1) (b0.2 - t.2.1.2) (vx_MQ bb (hp_Qv D vwCl (hp_Tl cA) sz (cd_pic cA ad ca0 σ0) (fun _ => False)) (hp_XQ D vwCl (hp_Tl cA) "java/lang/IllegalArgumentException" (cd_pic cA ad ca0 σ0) sz (fun u => ∃ ca1, cd_inj ad ca1 ∧ u = cd_pic cA ad ca1 p.1)) [.ref (ad 4 0)].toArray ss (b0.1 - p.2.1) (b0.2 - p.2.2) (hp_A (cd_pic cA ad ca0 σ0) sz)) (F0 mm 159 ls []))) → (∀ r, q = Sum.inl r → r = Sum.inr p) → W pp l ee ({ frames := 418, cells := b0.1 - p.2.1, slots := b0.2 - p.2.2, locals := 10729 }) ss mm [.ref (ad 4 0)].toArray bb mt cd H locs (b0.1 - b.1) (b0.2 - b.2) (vx_MQ bb (hp_Qv D vwCl (hp_Tl cA) sz (cd_pic cA ad ca0 σ0) (fun _ => False)) (hp_XQ D vwCl (hp_Tl cA) "java/lang/IllegalArgumentException" (cd_pic cA ad ca0 σ0) sz (fun u => ∃ ca1, cd_inj ad ca1 ∧ u = cd_pic cA ad ca1 p.1)) [.ref (ad 4 0)].toArray ss (b0.1 - p.2.1) (b0.2 - p.2.2) (hp_A (cd_pic cA ad ca0 σ0) sz)) (F0 mm 131 ls []) := by
        intro j
        induction j with
        | zero => intro ca hj σ b l1 q H locs ls hb1 hb2 hf1 hf2 hq1 hq2 h; exact nomatch h
        | succ j ih =>
          intro ca hj σ b l1 q H locs ls hb1 hb2 hf1 hf2 hq1 hq2 h hw hl K KR
          unfold f_X4_readModule_L131 at h
          refine lv_iload_n cx.1 cx.2.1 dX4_readModule_131 rfl (lv_at hl 1 rfl) ?_
          refine lv_iconst (v := 4) cx.1 cx.2.1 dX4_readModule_132 (by decide) ?_
          refine lv_icmp_gt (tgt := 159) cx.1 cx.2.1 dX4_readModule_133 (by decide) (fun c133 => ?_) (fun c133 => ?_)
          · have h := md_ip c133 h
            exact K _ (Option.some.inj h).symm _ hj _ _ _ (by (try dsimp only); omega) (by (try dsimp only); omega) hw (lv_sub hl [0] rfl)
          · have h := md_in c133 h
            refine lv_aload_n cx.1 cx.2.1 dX4_readModule_136 rfl (lv_at hl 0 rfl) ?_
            refine cd_gO (o2 := 10) (e2 := 0) (o := 4) (k := 0) (f := 128) hj cx hw hic4 rfl ⟨by decide, rfl, by decide, rfl⟩ rfl (by decide) ⟨rfl, rfl⟩ (List.mem_cons_of_mem _ cm_658) dX4_readModule_137 ?_
            refine cd_gI (o := 10) (k := 8) (f := 328) hj cx hw hic10 rfl ⟨by decide, rfl, by decide, rfl⟩ rfl (by decide) (List.mem_cons_of_mem _ cm_665) dX4_readModule_140 ?_
            refine lv_sipush (v := 212) cx.1 cx.2.1 dX4_readModule_143 (by decide) ?_
            refine lv_icmp_ne (tgt := 159) cx.1 cx.2.1 dX4_readModule_146 (by decide) (fun c146 => ?_) (fun c146 => ?_)
            · have h := md_in c146 h
              exact K _ (Option.some.inj h).symm _ hj _ _ _ (by (try dsimp only); omega) (by (try dsimp only); omega) hw (lv_sub hl [0] rfl)
            · have h := md_ip c146 h
              refine lv_aload_n cx.1 cx.2.1 dX4_readModule_149 rfl (lv_at hl 0 rfl) ?_
              obtain ⟨q3, e_q3, h⟩ := md_ob h
              obtain ⟨hm4, hn4, h⟩ := cd_cks h
              have hM4 : p.2.1 ≤ (Sum.elim (fun (p : Int32 × cd_S × cd_B) => p.2.2) (fun (t : cd_S × cd_B) => t.2) q3).1 ∧ p.2.2 ≤ (Sum.elim (fun (p : Int32 × cd_S × cd_B) => p.2.2) (fun (t : cd_S × cd_B) => t.2) q3).2 := ⟨Nat.le_trans hq1 hm4, Nat.le_trans hq2 hn4⟩
              cases q3 with
              | inr t3 =>
                obtain rfl : t3 = p := Sum.inr.inj (KR _ (Option.some.inj h).symm)
                have hlx3 := (kx_X4_readField l D cA E sz ad _ hj oq sgq sgv hE hX n σ b  t3 e_q3).1
                exact hp_callQv (As := []) (rest := []) cx hw hno ((kx_X4_readField l D cA E _ ad _ hj oq sgq sgv hE hX n σ b  t3 e_q3).2) (cwV 0 cx.2.2.2.2.2.1 (cd_giV cm_973 cm_974 cm_975 cm_663 cm_976) rfl rfl rfl hdc_X4_readField ⟨Nat.le_of_ble_eq_true rfl, Nat.le_of_ble_eq_true rfl⟩) (cd_atO hj (by decide) (by decide)) rfl rfl hl.1 rfl (Nat.le_of_ble_eq_true rfl) dX4_readModule_150 ⟨by (try dsimp only); omega, by (try dsimp only); omega⟩ (by omega) (by omega)
              | inl p3 =>
                have hle3 := (kc_X4_readField l D cA E sz ad _ hj oq sgq sgv hE n σ b  p3 e_q3).1
                have hM10004 : p.2.1 ≤ p3.2.2.1 ∧ p.2.2 ≤ p3.2.2.2 := hM4
                have h := cd_inl h
                refine hp_callVv (As := []) (rest := []) cx hw ((kc_X4_readField l D cA E _ ad _ hj oq sgq sgv hE n σ b  p3 e_q3).2) (cwV 0 cx.2.2.2.2.2.1 (cd_giV cm_973 cm_974 cm_975 cm_663 cm_976) rfl rfl rfl hdc_X4_readField ⟨Nat.le_of_ble_eq_true rfl, Nat.le_of_ble_eq_true rfl⟩) (cd_atO hj (by decide) (by decide)) rfl rfl hl.1 rfl (Nat.le_of_ble_eq_true rfl) dX4_readModule_150 ⟨by (try dsimp only); omega, by (try dsimp only); omega⟩ (fun u H locs hp hw => ?_)
                obtain ⟨ca, hj, rfl⟩ := hp
                refine W.widen (k := b0.1 - p3.2.2.1) (n := b0.2 - p3.2.2.2) (by omega) (by omega) ?_
                refine lv_iinc (v := (l1 + 1)) (lv' := [(1, .int (l1 + 1)), (0, .ref (ad 4 0))]) cx.1 cx.2.1 dX4_readModule_153 hl (k := 1) rfl rfl (by decide) rfl (fun ls hl => ?_)
                refine lv_goto (tgt := 131) cx.1 cx.2.1 dX4_readModule_156 (by decide) ?_
                exact ih _ hj p3.2.1 (p3.2.2) ((l1 + 1)) q _ _ _ (by omega) (by omega) (by omega) (by omega) hq1 hq2 h hw (lv_sub hl [1, 0] rfl) K KR
      obtain ⟨q5, e_q5, h⟩ := md_ob h
      obtain ⟨hm6, hn6, h⟩ := cd_cks h
      have hM6 : p.2.1 ≤ (Sum.elim (fun (q : ((Int32 × cd_S × cd_B) ⊕ (cd_S × cd_B))) => Sum.elim (fun (p : (Int32 × cd_S × cd_B)) => p.2.2) (fun (t : cd_S × cd_B) => t.2) q) (fun (q : cd_S × cd_B × Int32) => q.2.1) q5).1 ∧ p.2.2 ≤ (Sum.elim (fun (q : ((Int32 × cd_S × cd_B) ⊕ (cd_S × cd_B))) => Sum.elim (fun (p : (Int32 × cd_S × cd_B)) => p.2.2) (fun (t : cd_S × cd_B) => t.2) q) (fun (q : cd_S × cd_B × Int32) => q.2.1) q5).2 := ⟨hm6, hn6⟩
      refine L131 n _ hj p1.2.1 (p1.2.2) 0 q5 _ _ _ (by omega) (by omega) (by omega) (by omega) hM6.1 hM6.2 e_q5 hw (lv_sub hl [1, 0] rfl) (fun t5 hq5 ca hj H locs ls hb1 hb2 hw hl => ?_) (fun r hr => by subst hr; exact Option.some.inj h)
      subst hq5
      have h := md_inr h
      have hS6 : p.2.1 ≤ t5.2.1.1 ∧ p.2.2 ≤ t5.2.1.2 := hM6
      refine lv_iconst (v := 0) cx.1 cx.2.1 dX4_readModule_159 (by decide) ?_
      refine lv_istore_n (lv' := [(1, .int 0), (0, .ref (ad 4 0))]) cx.1 cx.2.1 dX4_readModule_160 rfl hl (by decide) rfl (fun ls hl => ?_)
      have L161 : ∀ (j : Nat) (ca : Nat → Nat) (hj : cd_inj ad ca) (σ : cd_S) (b : cd_B) (l1 : Int32) (q : (((Int32 × cd_S × cd_B) ⊕ (cd_S × cd_B)) ⊕ (cd_S × cd_B × Int32))) (H : Heap) (locs : List Loc) (ls : Array Slot), b.1 ≤ b0.1 → b.2 ≤ b0.2 → p.2.1 ≤ b.1 → p.2.2 ≤ b.2 → p.2.1 ≤ (Sum.elim (fun (q : ((Int32 × cd_S × cd_B) ⊕ (cd_S × cd_B))) => Sum.elim (fun (p : (Int32 × cd_S × cd_B)) => p.2.2) (fun (t : cd_S × cd_B) => t.2) q) (fun (q : cd_S × cd_B × Int32) => q.2.1) q).1 → p.2.2 ≤ (Sum.elim (fun (q : ((Int32 × cd_S × cd_B) ⊕ (cd_S × cd_B))) => Sum.elim (fun (p : (Int32 × cd_S × cd_B)) => p.2.2) (fun (t : cd_S × cd_B) => t.2) q) (fun (q : cd_S × cd_B × Int32) => q.2.1) q).2 → f_X4_readModule_L161 n j σ b l1 = some q → hp_w D vwCl (hp_Tl cA) E (hp_A (cd_pic cA ad ca0 σ0) sz) ss H locs (cd_pic cA ad ca σ) → lv_has ls 2 [(0, .ref (ad 4 0)), (1, .int l1)] → (∀ t, q = Sum.inr t → (∀ (ca : Nat → Nat) (hj : cd_inj ad ca) (H : Heap) (locs : List Loc) (ls : Array Slot), t.2.1.1 ≤ b0.1 → t.2.1.2 ≤ b0.2 → hp_w D vwCl (hp_Tl cA) E (hp_A (cd_pic cA ad ca0 σ0) sz) ss H locs (cd_pic cA ad ca t.1) → lv_has ls 2 [(0, .ref (ad 4 0))] → W pp l ee ({ frames := 418, cells := b0.1 - p.2.1, slots := b0.2 - p.2.2, locals := 10729 }) ss mm [.ref (ad 4 0)].toArray bb mt cd H locs (b0.1 - t.2.1.1) (b0.2 - t.2.1.2) (vx_MQ bb (hp_Qv D vwCl (hp_Tl cA) sz (cd_pic cA ad ca0 σ0) (fun _ => False)) (hp_XQ D vwCl (hp_Tl cA) "java/lang/IllegalArgumentException" (cd_pic cA ad ca0 σ0) sz (fun u => ∃ ca1, cd_inj ad ca1 ∧ u = cd_pic cA ad ca1 p.1)) [.ref (ad 4 0)].toArray ss (b0.1 - p.2.1) (b0.2 - p.2.2) (hp_A (cd_pic cA ad ca0 σ0) sz)) (F0 mm 188 ls []))) → (∀ r, q = Sum.inl r → r = Sum.inr p) → W pp l ee ({ frames := 418, cells := b0.1 - p.2.1, slots := b0.2 - p.2.2, locals := 10729 }) ss mm [.ref (ad 4 0)].toArray bb mt cd H locs (b0.1 - b.1) (b0.2 - b.2) (vx_MQ bb (hp_Qv D vwCl (hp_Tl cA) sz (cd_pic cA ad ca0 σ0) (fun _ => False)) (hp_XQ D vwCl (hp_Tl cA) "java/lang/IllegalArgumentException" (cd_pic cA ad ca0 σ0) sz (fun u => ∃ ca1, cd_inj ad ca1 ∧ u = cd_pic cA ad ca1 p.1)) [.ref (ad 4 0)].toArray ss (b0.1 - p.2.1) (b0.2 - p.2.2) (hp_A (cd_pic cA ad ca0 σ0) sz)) (F0 mm 161 ls []) := by
        intro j
        induction j with
        | zero => intro ca hj σ b l1 q H locs ls hb1 hb2 hf1 hf2 hq1 hq2 h; exact nomatch h
        | succ j ih =>
          intro ca hj σ b l1 q H locs ls hb1 hb2 hf1 hf2 hq1 hq2 h hw hl K KR
          unfold f_X4_readModule_L161 at h
          refine lv_iload_n cx.1 cx.2.1 dX4_readModule_161 rfl (lv_at hl 1 rfl) ?_
          refine lv_bipush (v := 12) cx.1 cx.2.1 dX4_readModule_162 (by decide) ?_
          refine lv_icmp_gt (tgt := 188) cx.1 cx.2.1 dX4_readModule_164 (by decide) (fun c164 => ?_) (fun c164 => ?_)
          · have h := md_ip c164 h
            exact K _ (Option.some.inj h).symm _ hj _ _ _ (by (try dsimp only); omega) (by (try dsimp only); omega) hw (lv_sub hl [0] rfl)
          · have h := md_in c164 h
            refine lv_aload_n cx.1 cx.2.1 dX4_readModule_167 rfl (lv_at hl 0 rfl) ?_
            refine cd_gO (o2 := 10) (e2 := 0) (o := 4) (k := 0) (f := 128) hj cx hw hic4 rfl ⟨by decide, rfl, by decide, rfl⟩ rfl (by decide) ⟨rfl, rfl⟩ (List.mem_cons_of_mem _ cm_658) dX4_readModule_168 ?_
            refine cd_gI (o := 10) (k := 8) (f := 328) hj cx hw hic10 rfl ⟨by decide, rfl, by decide, rfl⟩ rfl (by decide) (List.mem_cons_of_mem _ cm_665) dX4_readModule_171 ?_
            refine lv_iconst (v := 2) cx.1 cx.2.1 dX4_readModule_174 (by decide) ?_
            refine lv_icmp_ne (tgt := 188) cx.1 cx.2.1 dX4_readModule_175 (by decide) (fun c175 => ?_) (fun c175 => ?_)
            · have h := md_in c175 h
              exact K _ (Option.some.inj h).symm _ hj _ _ _ (by (try dsimp only); omega) (by (try dsimp only); omega) hw (lv_sub hl [0] rfl)
            · have h := md_ip c175 h
              refine lv_aload_n cx.1 cx.2.1 dX4_readModule_178 rfl (lv_at hl 0 rfl) ?_
              obtain ⟨q7, e_q7, h⟩ := md_ob h
              obtain ⟨hm8, hn8, h⟩ := cd_cks h
              have hM8 : p.2.1 ≤ (Sum.elim (fun (p : Int32 × cd_S × cd_B) => p.2.2) (fun (t : cd_S × cd_B) => t.2) q7).1 ∧ p.2.2 ≤ (Sum.elim (fun (p : Int32 × cd_S × cd_B) => p.2.2) (fun (t : cd_S × cd_B) => t.2) q7).2 := ⟨Nat.le_trans hq1 hm8, Nat.le_trans hq2 hn8⟩
              cases q7 with
              | inr t7 =>
                obtain rfl : t7 = p := Sum.inr.inj (KR _ (Option.some.inj h).symm)
                have hlx7 := (kx_X4_readMethod l D cA E sz ad _ hj oq sgq sgv hE hX n σ b  t7 e_q7).1
                exact hp_callQv (As := []) (rest := []) cx hw hno ((kx_X4_readMethod l D cA E _ ad _ hj oq sgq sgv hE hX n σ b  t7 e_q7).2) (cwV 0 cx.2.2.2.2.2.1 (cd_giV cm_977 cm_978 cm_979 cm_663 cm_980) rfl rfl rfl hdc_X4_readMethod ⟨Nat.le_of_ble_eq_true rfl, Nat.le_of_ble_eq_true rfl⟩) (cd_atO hj (by decide) (by decide)) rfl rfl hl.1 rfl (Nat.le_of_ble_eq_true rfl) dX4_readModule_179 ⟨by (try dsimp only); omega, by (try dsimp only); omega⟩ (by omega) (by omega)
              | inl p7 =>
                have hle7 := (kc_X4_readMethod l D cA E sz ad _ hj oq sgq sgv hE n σ b  p7 e_q7).1
                have hM10008 : p.2.1 ≤ p7.2.2.1 ∧ p.2.2 ≤ p7.2.2.2 := hM8
                have h := cd_inl h
                refine hp_callVv (As := []) (rest := []) cx hw ((kc_X4_readMethod l D cA E _ ad _ hj oq sgq sgv hE n σ b  p7 e_q7).2) (cwV 0 cx.2.2.2.2.2.1 (cd_giV cm_977 cm_978 cm_979 cm_663 cm_980) rfl rfl rfl hdc_X4_readMethod ⟨Nat.le_of_ble_eq_true rfl, Nat.le_of_ble_eq_true rfl⟩) (cd_atO hj (by decide) (by decide)) rfl rfl hl.1 rfl (Nat.le_of_ble_eq_true rfl) dX4_readModule_179 ⟨by (try dsimp only); omega, by (try dsimp only); omega⟩ (fun u H locs hp hw => ?_)
                obtain ⟨ca, hj, rfl⟩ := hp
                refine W.widen (k := b0.1 - p7.2.2.1) (n := b0.2 - p7.2.2.2) (by omega) (by omega) ?_
                refine lv_iinc (v := (l1 + 1)) (lv' := [(1, .int (l1 + 1)), (0, .ref (ad 4 0))]) cx.1 cx.2.1 dX4_readModule_182 hl (k := 1) rfl rfl (by decide) rfl (fun ls hl => ?_)
                refine lv_goto (tgt := 161) cx.1 cx.2.1 dX4_readModule_185 (by decide) ?_
                exact ih _ hj p7.2.1 (p7.2.2) ((l1 + 1)) q _ _ _ (by omega) (by omega) (by omega) (by omega) hq1 hq2 h hw (lv_sub hl [1, 0] rfl) K KR
      obtain ⟨q9, e_q9, h⟩ := md_ob h
      obtain ⟨hm10, hn10, h⟩ := cd_cks h
      have hM10 : p.2.1 ≤ (Sum.elim (fun (q : ((Int32 × cd_S × cd_B) ⊕ (cd_S × cd_B))) => Sum.elim (fun (p : (Int32 × cd_S × cd_B)) => p.2.2) (fun (t : cd_S × cd_B) => t.2) q) (fun (q : cd_S × cd_B × Int32) => q.2.1) q9).1 ∧ p.2.2 ≤ (Sum.elim (fun (q : ((Int32 × cd_S × cd_B) ⊕ (cd_S × cd_B))) => Sum.elim (fun (p : (Int32 × cd_S × cd_B)) => p.2.2) (fun (t : cd_S × cd_B) => t.2) q) (fun (q : cd_S × cd_B × Int32) => q.2.1) q9).2 := ⟨hm10, hn10⟩
      refine L161 n _ hj t5.1 (t5.2.1) 0 q9 _ _ _ (by omega) (by omega) (by omega) (by omega) hM10.1 hM10.2 e_q9 hw (lv_sub hl [1, 0] rfl) (fun t9 hq9 ca hj H locs ls hb1 hb2 hw hl => ?_) (fun r hr => by subst hr; exact Option.some.inj h)
      subst hq9
      have h := md_inr h
      have hS10 : p.2.1 ≤ t9.2.1.1 ∧ p.2.2 ≤ t9.2.1.2 := hM10
      refine lv_aload_n cx.1 cx.2.1 dX4_readModule_188 rfl (lv_at hl 0 rfl) ?_
      refine lv_bipush (v := 125) cx.1 cx.2.1 dX4_readModule_189 (by decide) ?_
      obtain ⟨q11, e_q11, h⟩ := md_ob h
      obtain ⟨hm12, hn12, h⟩ := cd_cks h
      have hM12 : p.2.1 ≤ (Sum.elim (fun (p : Int32 × cd_S × cd_B) => p.2.2) (fun (t : cd_S × cd_B) => t.2) q11).1 ∧ p.2.2 ≤ (Sum.elim (fun (p : Int32 × cd_S × cd_B) => p.2.2) (fun (t : cd_S × cd_B) => t.2) q11).2 := ⟨hm12, hn12⟩
      cases q11 with
      | inr t11 =>
        obtain rfl : t11 = p := Sum.inr.inj (Option.some.inj h)
        have hlx11 := (kx_X4_pass l D cA E sz ad _ hj oq sgq sgv hE hX n t9.1 (t9.2.1) (125 : Int32) t11 e_q11).1
        exact hp_callQv (As := [.int 125]) (rest := []) cx hw hno ((kx_X4_pass l D cA E _ ad _ hj oq sgq sgv hE hX n t9.1 (t9.2.1) (125 : Int32) t11 e_q11).2) (cwV 1 cx.2.2.2.2.2.1 (cd_giV cm_714 cm_715 cm_716 cm_663 cm_717) rfl rfl rfl hdc_X4_pass ⟨Nat.le_of_ble_eq_true rfl, Nat.le_of_ble_eq_true rfl⟩) (cd_atO hj (by decide) (by decide)) rfl rfl hl.1 rfl (Nat.le_of_ble_eq_true rfl) dX4_readModule_191 ⟨by (try dsimp only); omega, by (try dsimp only); omega⟩ (by omega) (by omega)
      | inl p11 =>
        have hle11 := (kc_X4_pass l D cA E sz ad _ hj oq sgq sgv hE n t9.1 (t9.2.1) (125 : Int32) p11 e_q11).1
        have hM10012 : p.2.1 ≤ p11.2.2.1 ∧ p.2.2 ≤ p11.2.2.2 := hM12
        have h := cd_inl h
        refine hp_callVv (As := [.int 125]) (rest := []) cx hw ((kc_X4_pass l D cA E _ ad _ hj oq sgq sgv hE n t9.1 (t9.2.1) (125 : Int32) p11 e_q11).2) (cwV 1 cx.2.2.2.2.2.1 (cd_giV cm_714 cm_715 cm_716 cm_663 cm_717) rfl rfl rfl hdc_X4_pass ⟨Nat.le_of_ble_eq_true rfl, Nat.le_of_ble_eq_true rfl⟩) (cd_atO hj (by decide) (by decide)) rfl rfl hl.1 rfl (Nat.le_of_ble_eq_true rfl) dX4_readModule_191 ⟨by (try dsimp only); omega, by (try dsimp only); omega⟩ (fun u H locs hp hw => ?_)
        obtain ⟨ca, hj, rfl⟩ := hp
        refine W.widen (k := b0.1 - p11.2.2.1) (n := b0.2 - p11.2.2.2) (by omega) (by omega) ?_
        exact nomatch Option.some.inj h
  have J62 : ∀ (ca : Nat → Nat) (hj : cd_inj ad ca) (σ : cd_S) (b : cd_B) (H : Heap) (locs : List Loc) (ls : Array Slot), b.1 ≤ b0.1 → b.2 ≤ b0.2 → p.2.1 ≤ b.1 → p.2.2 ≤ b.2 → f_X4_readModule_J62 n σ b = some (Sum.inr p) → hp_w D vwCl (hp_Tl cA) E (hp_A (cd_pic cA ad ca0 σ0) sz) ss H locs (cd_pic cA ad ca σ) → lv_has ls 2 [(0, .ref (ad 4 0))] → W pp l ee ({ frames := 418, cells := b0.1 - p.2.1, slots := b0.2 - p.2.2, locals := 10729 }) ss mm [.ref (ad 4 0)].toArray bb mt cd H locs (b0.1 - b.1) (b0.2 - b.2) (vx_MQ bb (hp_Qv D vwCl (hp_Tl cA) sz (cd_pic cA ad ca0 σ0) (fun _ => False)) (hp_XQ D vwCl (hp_Tl cA) "java/lang/IllegalArgumentException" (cd_pic cA ad ca0 σ0) sz (fun u => ∃ ca1, cd_inj ad ca1 ∧ u = cd_pic cA ad ca1 p.1)) [.ref (ad 4 0)].toArray ss (b0.1 - p.2.1) (b0.2 - p.2.2) (hp_A (cd_pic cA ad ca0 σ0) sz)) (F0 mm 62 ls []) := by
    intro ca hj σ b H locs ls hb1 hb2 hf1 hf2 h hw hl
    refine lv_aload_n cx.1 cx.2.1 dX4_readModule_62 rfl (lv_at hl 0 rfl) ?_
    refine lv_aload_n cx.1 cx.2.1 dX4_readModule_63 rfl (lv_at hl 0 rfl) ?_
    refine cd_gO (o2 := 2) (e2 := 0) (o := 4) (k := 1) (f := 129) hj cx hw hic4 rfl ⟨by decide, rfl, by decide, rfl⟩ rfl (by decide) ⟨rfl, rfl⟩ (List.mem_cons_of_mem _ cm_722) dX4_readModule_64 ?_
    refine lv_aload_n cx.1 cx.2.1 dX4_readModule_67 rfl (lv_at hl 0 rfl) ?_
    refine cd_gO (o2 := 10) (e2 := 0) (o := 4) (k := 0) (f := 128) hj cx hw hic4 rfl ⟨by decide, rfl, by decide, rfl⟩ rfl (by decide) ⟨rfl, rfl⟩ (List.mem_cons_of_mem _ cm_658) dX4_readModule_68 ?_
    refine cd_gJ (o := 10) (k := 10) (f := 330) hj cx hw hic10 rfl ⟨by decide, rfl, by decide, rfl⟩ rfl (by decide) (List.mem_cons_of_mem _ cm_695) dX4_readModule_71 ?_
    obtain ⟨p13, e_p13, h⟩ := md_ob h
    refine hp_callVi (As := [.long (cJ σ 330 0)]) (rest := [.ref (ad 4 0)]) cx hw (kc_X2_addModule l D cA E _ ad _ hj oq sgq sgv hE n σ ((cJ σ 330 0)) p13 e_p13) (cwV 1 cx.2.2.2.2.2.1 (cd_giV cm_961 cm_962 cm_963 cm_167 cm_964) rfl rfl rfl hdc_X2_addModule ⟨Nat.le_of_ble_eq_true rfl, Nat.le_of_ble_eq_true rfl⟩) (cd_atO hj (by decide) (by decide)) rfl rfl hl.1 rfl (Nat.le_of_ble_eq_true rfl) dX4_readModule_74 ⟨by (try dsimp only); omega, by (try dsimp only); omega⟩ (fun r u H locs hp hw => ?_)
    obtain ⟨rfl, ca, hj, rfl⟩ := hp
    obtain ⟨σ14, e_σ14, h⟩ := md_ob h
    refine cd_pI (o := 4) (k := 9) (f := 137) hj cx hw hic4 rfl ⟨by decide, rfl, by decide, rfl⟩ tyX4_ok nmX4 rfl (by decide) rfl (List.mem_cons_of_mem _ cm_734) rfl e_σ14 dX4_readModule_77 (fun H locs hw => ?_)
    refine lv_aload_n cx.1 cx.2.1 dX4_readModule_80 rfl (lv_at hl 0 rfl) ?_
    refine cd_gO (o2 := 10) (e2 := 0) (o := 4) (k := 0) (f := 128) hj cx hw hic4 rfl ⟨by decide, rfl, by decide, rfl⟩ rfl (by decide) ⟨rfl, rfl⟩ (List.mem_cons_of_mem _ cm_658) dX4_readModule_81 ?_
    obtain ⟨p15, e_p15, h⟩ := md_ob h
    refine hp_callVv (As := []) (rest := []) cx hw (kc_X10_advance l D cA E _ ad _ hj oq sgq sgv hE n σ14  p15 e_p15) (cwV 0 cx.2.2.2.2.2.1 (cd_giV cm_670 cm_671 cm_672 cm_301 cm_673) rfl rfl rfl hdc_X10_advance ⟨Nat.le_of_ble_eq_true rfl, Nat.le_of_ble_eq_true rfl⟩) (cd_atO hj (by decide) (by decide)) rfl rfl hl.1 rfl (Nat.le_of_ble_eq_true rfl) dX4_readModule_84 ⟨by (try dsimp only); omega, by (try dsimp only); omega⟩ (fun u H locs hp hw => ?_)
    obtain ⟨ca, hj, rfl⟩ := hp
    refine lv_aload_n cx.1 cx.2.1 dX4_readModule_87 rfl (lv_at hl 0 rfl) ?_
    refine lv_iconst (v := 1) cx.1 cx.2.1 dX4_readModule_88 (by decide) ?_
    obtain ⟨q16, e_q16, h⟩ := md_ob h
    obtain ⟨hm17, hn17, h⟩ := cd_cks h
    have hM17 : p.2.1 ≤ (Sum.elim (fun (p : Int32 × cd_S × cd_B) => p.2.2) (fun (t : cd_S × cd_B) => t.2) q16).1 ∧ p.2.2 ≤ (Sum.elim (fun (p : Int32 × cd_S × cd_B) => p.2.2) (fun (t : cd_S × cd_B) => t.2) q16).2 := ⟨hm17, hn17⟩
    cases q16 with
    | inr t16 =>
      obtain rfl : t16 = p := Sum.inr.inj (Option.some.inj h)
      have hlx16 := (kx_X4_takePattern l D cA E sz ad _ hj oq sgq sgv hE hX n p15.2 b (1 : Int32) t16 e_q16).1
      exact hp_callQv (As := [.int 1]) (rest := []) cx hw hno ((kx_X4_takePattern l D cA E _ ad _ hj oq sgq sgv hE hX n p15.2 b (1 : Int32) t16 e_q16).2) (cwV 1 cx.2.2.2.2.2.1 (cd_giV cm_697 cm_698 cm_699 cm_663 cm_700) rfl rfl rfl hdc_X4_takePattern ⟨Nat.le_of_ble_eq_true rfl, Nat.le_of_ble_eq_true rfl⟩) (cd_atO hj (by decide) (by decide)) rfl rfl hl.1 rfl (Nat.le_of_ble_eq_true rfl) dX4_readModule_89 ⟨by (try dsimp only); omega, by (try dsimp only); omega⟩ (by omega) (by omega)
    | inl p16 =>
      have hle16 := (kc_X4_takePattern l D cA E sz ad _ hj oq sgq sgv hE n p15.2 b (1 : Int32) p16 e_q16).1
      have hM10017 : p.2.1 ≤ p16.2.2.1 ∧ p.2.2 ≤ p16.2.2.2 := hM17
      have h := cd_inl h
      refine hp_callVv (As := [.int 1]) (rest := []) cx hw ((kc_X4_takePattern l D cA E _ ad _ hj oq sgq sgv hE n p15.2 b (1 : Int32) p16 e_q16).2) (cwV 1 cx.2.2.2.2.2.1 (cd_giV cm_697 cm_698 cm_699 cm_663 cm_700) rfl rfl rfl hdc_X4_takePattern ⟨Nat.le_of_ble_eq_true rfl, Nat.le_of_ble_eq_true rfl⟩) (cd_atO hj (by decide) (by decide)) rfl rfl hl.1 rfl (Nat.le_of_ble_eq_true rfl) dX4_readModule_89 ⟨by (try dsimp only); omega, by (try dsimp only); omega⟩ (fun u H locs hp hw => ?_)
      obtain ⟨ca, hj, rfl⟩ := hp
      refine W.widen (k := b0.1 - p16.2.2.1) (n := b0.2 - p16.2.2.2) (by omega) (by omega) ?_
      refine lv_aload_n cx.1 cx.2.1 dX4_readModule_92 rfl (lv_at hl 0 rfl) ?_
      refine cd_gO (o2 := 3) (e2 := 0) (o := 4) (k := 2) (f := 130) hj cx hw hic4 rfl ⟨by decide, rfl, by decide, rfl⟩ rfl (by decide) ⟨rfl, rfl⟩ (List.mem_cons_of_mem _ cm_701) dX4_readModule_93 ?_
      refine lv_aload_n cx.1 cx.2.1 dX4_readModule_96 rfl (lv_at hl 0 rfl) ?_
      refine cd_gI (o := 4) (k := 9) (f := 137) hj cx hw hic4 rfl ⟨by decide, rfl, by decide, rfl⟩ rfl (by decide) (List.mem_cons_of_mem _ cm_734) dX4_readModule_97 ?_
      refine lv_aload_n cx.1 cx.2.1 dX4_readModule_100 rfl (lv_at hl 0 rfl) ?_
      refine cd_gO (o2 := 5) (e2 := 193) (o := 4) (k := 3) (f := 131) hj cx hw hic4 rfl ⟨by decide, rfl, by decide, rfl⟩ rfl (by decide) ⟨rfl, rfl⟩ (List.mem_cons_of_mem _ cm_682) dX4_readModule_101 ?_
      obtain ⟨p18, e_p18, h⟩ := md_ob h
      refine hp_callVv (As := [.int (cI p16.2.1 137 0), .ref (ad 5 193)]) (rest := []) cx hw (kc_X3_placeModule l D cA E _ ad _ hj oq sgq sgv hE n p16.2.1 ((cI p16.2.1 137 0)) 193 (by decide) p18 e_p18) (cwV 2 cx.2.2.2.2.2.1 (cd_giV cm_965 cm_966 cm_967 cm_332 cm_968) rfl rfl rfl hdc_X3_placeModule ⟨Nat.le_of_ble_eq_true rfl, Nat.le_of_ble_eq_true rfl⟩) (cd_atO hj (by decide) (by decide)) rfl rfl hl.1 rfl (Nat.le_of_ble_eq_true rfl) dX4_readModule_104 ⟨by (try dsimp only); omega, by (try dsimp only); omega⟩ (fun u H locs hp hw => ?_)
      obtain ⟨ca, hj, rfl⟩ := hp
      refine lv_aload_n cx.1 cx.2.1 dX4_readModule_107 rfl (lv_at hl 0 rfl) ?_
      refine cd_gO (o2 := 10) (e2 := 0) (o := 4) (k := 0) (f := 128) hj cx hw hic4 rfl ⟨by decide, rfl, by decide, rfl⟩ rfl (by decide) ⟨rfl, rfl⟩ (List.mem_cons_of_mem _ cm_658) dX4_readModule_108 ?_
      refine cd_gI (o := 10) (k := 8) (f := 328) hj cx hw hic10 rfl ⟨by decide, rfl, by decide, rfl⟩ rfl (by decide) (List.mem_cons_of_mem _ cm_665) dX4_readModule_111 ?_
      refine lv_bipush (v := 58) cx.1 cx.2.1 dX4_readModule_114 (by decide) ?_
      refine lv_icmp_ne (tgt := 123) cx.1 cx.2.1 dX4_readModule_116 (by decide) (fun c116 => ?_) (fun c116 => ?_)
      · have h := md_in c116 h
        exact J123 _ hj p18.2 (p16.2.2) _ _ _ (by omega) (by omega) (by omega) (by omega) h hw (lv_sub hl [0] rfl)
      · have h := md_ip c116 h
        refine lv_aload_n cx.1 cx.2.1 dX4_readModule_119 rfl (lv_at hl 0 rfl) ?_
        obtain ⟨q19, e_q19, h⟩ := md_ob h
        obtain ⟨hm20, hn20, h⟩ := cd_cks h
        have hM20 : p.2.1 ≤ (Sum.elim (fun (p : Int32 × cd_S × cd_B) => p.2.2) (fun (t : cd_S × cd_B) => t.2) q19).1 ∧ p.2.2 ≤ (Sum.elim (fun (p : Int32 × cd_S × cd_B) => p.2.2) (fun (t : cd_S × cd_B) => t.2) q19).2 := ⟨hm20, hn20⟩
        cases q19 with
        | inr t19 =>
          obtain rfl : t19 = p := Sum.inr.inj (Option.some.inj h)
          have hlx19 := (kx_X4_readSuper l D cA E sz ad _ hj oq sgq sgv hE hX n p18.2 (p16.2.2)  t19 e_q19).1
          exact hp_callQv (As := []) (rest := []) cx hw hno ((kx_X4_readSuper l D cA E _ ad _ hj oq sgq sgv hE hX n p18.2 (p16.2.2)  t19 e_q19).2) (cwV 0 cx.2.2.2.2.2.1 (cd_giV cm_969 cm_970 cm_971 cm_663 cm_972) rfl rfl rfl hdc_X4_readSuper ⟨Nat.le_of_ble_eq_true rfl, Nat.le_of_ble_eq_true rfl⟩) (cd_atO hj (by decide) (by decide)) rfl rfl hl.1 rfl (Nat.le_of_ble_eq_true rfl) dX4_readModule_120 ⟨by (try dsimp only); omega, by (try dsimp only); omega⟩ (by omega) (by omega)
        | inl p19 =>
          have hle19 := (kc_X4_readSuper l D cA E sz ad _ hj oq sgq sgv hE n p18.2 (p16.2.2)  p19 e_q19).1
          have hM10020 : p.2.1 ≤ p19.2.2.1 ∧ p.2.2 ≤ p19.2.2.2 := hM20
          have h := cd_inl h
          refine hp_callVv (As := []) (rest := []) cx hw ((kc_X4_readSuper l D cA E _ ad _ hj oq sgq sgv hE n p18.2 (p16.2.2)  p19 e_q19).2) (cwV 0 cx.2.2.2.2.2.1 (cd_giV cm_969 cm_970 cm_971 cm_663 cm_972) rfl rfl rfl hdc_X4_readSuper ⟨Nat.le_of_ble_eq_true rfl, Nat.le_of_ble_eq_true rfl⟩) (cd_atO hj (by decide) (by decide)) rfl rfl hl.1 rfl (Nat.le_of_ble_eq_true rfl) dX4_readModule_120 ⟨by (try dsimp only); omega, by (try dsimp only); omega⟩ (fun u H locs hp hw => ?_)
          obtain ⟨ca, hj, rfl⟩ := hp
          refine W.widen (k := b0.1 - p19.2.2.1) (n := b0.2 - p19.2.2.2) (by omega) (by omega) ?_
          exact J123 _ hj p19.2.1 (p19.2.2) _ _ _ (by omega) (by omega) (by omega) (by omega) h hw (lv_sub hl [0] rfl)
  have J29 : ∀ (ca : Nat → Nat) (hj : cd_inj ad ca) (σ : cd_S) (b : cd_B) (t0 : Int32) (H : Heap) (locs : List Loc) (ls : Array Slot), b.1 ≤ b0.1 → b.2 ≤ b0.2 → p.2.1 ≤ b.1 → p.2.2 ≤ b.2 → f_X4_readModule_J29 n σ b t0 = some (Sum.inr p) → hp_w D vwCl (hp_Tl cA) E (hp_A (cd_pic cA ad ca0 σ0) sz) ss H locs (cd_pic cA ad ca σ) → lv_has ls 2 [(0, .ref (ad 4 0))] → W pp l ee ({ frames := 418, cells := b0.1 - p.2.1, slots := b0.2 - p.2.2, locals := 10729 }) ss mm [.ref (ad 4 0)].toArray bb mt cd H locs (b0.1 - b.1) (b0.2 - b.2) (vx_MQ bb (hp_Qv D vwCl (hp_Tl cA) sz (cd_pic cA ad ca0 σ0) (fun _ => False)) (hp_XQ D vwCl (hp_Tl cA) "java/lang/IllegalArgumentException" (cd_pic cA ad ca0 σ0) sz (fun u => ∃ ca1, cd_inj ad ca1 ∧ u = cd_pic cA ad ca1 p.1)) [.ref (ad 4 0)].toArray ss (b0.1 - p.2.1) (b0.2 - p.2.2) (hp_A (cd_pic cA ad ca0 σ0) sz)) (F0 mm 29 ls [.int t0, .ref (ad 4 0)]) := by
    intro ca hj σ b t0 H locs ls hb1 hb2 hf1 hf2 h hw hl
    obtain ⟨q21, e_q21, h⟩ := md_ob h
    obtain ⟨hm22, hn22, h⟩ := cd_cks h
    have hM22 : p.2.1 ≤ (Sum.elim (fun (p : Int32 × cd_S × cd_B) => p.2.2) (fun (t : cd_S × cd_B) => t.2) q21).1 ∧ p.2.2 ≤ (Sum.elim (fun (p : Int32 × cd_S × cd_B) => p.2.2) (fun (t : cd_S × cd_B) => t.2) q21).2 := ⟨hm22, hn22⟩
    cases q21 with
    | inr t21 =>
      obtain rfl : t21 = p := Sum.inr.inj (Option.some.inj h)
      have hlx21 := (kx_X4_room l D cA E sz ad _ hj oq sgq sgv hE hX n σ b t0 t21 e_q21).1
      exact hp_callQv (As := [.int t0]) (rest := []) cx hw hno ((kx_X4_room l D cA E _ ad _ hj oq sgq sgv hE hX n σ b t0 t21 e_q21).2) (cwV 1 cx.2.2.2.2.2.1 (cd_giV cm_691 cm_692 cm_693 cm_663 cm_694) rfl rfl rfl hdc_X4_room ⟨Nat.le_of_ble_eq_true rfl, Nat.le_of_ble_eq_true rfl⟩) (cd_atO hj (by decide) (by decide)) rfl rfl hl.1 rfl (Nat.le_of_ble_eq_true rfl) dX4_readModule_29 ⟨by (try dsimp only); omega, by (try dsimp only); omega⟩ (by omega) (by omega)
    | inl p21 =>
      have hle21 := (kc_X4_room l D cA E sz ad _ hj oq sgq sgv hE n σ b t0 p21 e_q21).1
      have hM10022 : p.2.1 ≤ p21.2.2.1 ∧ p.2.2 ≤ p21.2.2.2 := hM22
      have h := cd_inl h
      refine hp_callVv (As := [.int t0]) (rest := []) cx hw ((kc_X4_room l D cA E _ ad _ hj oq sgq sgv hE n σ b t0 p21 e_q21).2) (cwV 1 cx.2.2.2.2.2.1 (cd_giV cm_691 cm_692 cm_693 cm_663 cm_694) rfl rfl rfl hdc_X4_room ⟨Nat.le_of_ble_eq_true rfl, Nat.le_of_ble_eq_true rfl⟩) (cd_atO hj (by decide) (by decide)) rfl rfl hl.1 rfl (Nat.le_of_ble_eq_true rfl) dX4_readModule_29 ⟨by (try dsimp only); omega, by (try dsimp only); omega⟩ (fun u H locs hp hw => ?_)
      obtain ⟨ca, hj, rfl⟩ := hp
      refine W.widen (k := b0.1 - p21.2.2.1) (n := b0.2 - p21.2.2.2) (by omega) (by omega) ?_
      refine lv_aload_n cx.1 cx.2.1 dX4_readModule_32 rfl (lv_at hl 0 rfl) ?_
      refine cd_gO (o2 := 2) (e2 := 0) (o := 4) (k := 1) (f := 129) hj cx hw hic4 rfl ⟨by decide, rfl, by decide, rfl⟩ rfl (by decide) ⟨rfl, rfl⟩ (List.mem_cons_of_mem _ cm_722) dX4_readModule_33 ?_
      refine lv_aload_n cx.1 cx.2.1 dX4_readModule_36 rfl (lv_at hl 0 rfl) ?_
      refine cd_gO (o2 := 10) (e2 := 0) (o := 4) (k := 0) (f := 128) hj cx hw hic4 rfl ⟨by decide, rfl, by decide, rfl⟩ rfl (by decide) ⟨rfl, rfl⟩ (List.mem_cons_of_mem _ cm_658) dX4_readModule_37 ?_
      refine cd_gJ (o := 10) (k := 10) (f := 330) hj cx hw hic10 rfl ⟨by decide, rfl, by decide, rfl⟩ rfl (by decide) (List.mem_cons_of_mem _ cm_695) dX4_readModule_40 ?_
      obtain ⟨p23, e_p23, h⟩ := md_ob h
      refine hp_callVi (As := [.long (cJ p21.2.1 330 0)]) (rest := []) cx hw (kc_X2_findModule l D cA E _ ad _ hj oq sgq sgv hE n p21.2.1 ((cJ p21.2.1 330 0)) p23 e_p23) (cwV 1 cx.2.2.2.2.2.1 (cd_giV cm_823 cm_824 cm_825 cm_167 cm_826) rfl rfl rfl hdc_X2_findModule ⟨Nat.le_of_ble_eq_true rfl, Nat.le_of_ble_eq_true rfl⟩) (cd_atO hj (by decide) (by decide)) rfl rfl hl.1 rfl (Nat.le_of_ble_eq_true rfl) dX4_readModule_43 ⟨by (try dsimp only); omega, by (try dsimp only); omega⟩ (fun r u H locs hp hw => ?_)
      obtain ⟨rfl, ca, hj, rfl⟩ := hp
      refine lv_iconst (v := (-1)) cx.1 cx.2.1 dX4_readModule_46 (by decide) ?_
      refine lv_icmp_eq (tgt := 62) cx.1 cx.2.1 dX4_readModule_47 (by decide) (fun c47 => ?_) (fun c47 => ?_)
      · have h := md_ip c47 h
        exact J62 _ hj p23.2 (p21.2.2) _ _ _ (by omega) (by omega) (by omega) (by omega) h hw (lv_sub hl [0] rfl)
      · have h := md_in c47 h
        refine lv_aload_n cx.1 cx.2.1 dX4_readModule_50 rfl (lv_at hl 0 rfl) ?_
        refine lv_iconst (v := 2) cx.1 cx.2.1 dX4_readModule_51 (by decide) ?_
        refine lv_aload_n cx.1 cx.2.1 dX4_readModule_52 rfl (lv_at hl 0 rfl) ?_
        refine cd_gO (o2 := 10) (e2 := 0) (o := 4) (k := 0) (f := 128) hj cx hw hic4 rfl ⟨by decide, rfl, by decide, rfl⟩ rfl (by decide) ⟨rfl, rfl⟩ (List.mem_cons_of_mem _ cm_658) dX4_readModule_53 ?_
        refine cd_gI (o := 10) (k := 9) (f := 329) hj cx hw hic10 rfl ⟨by decide, rfl, by decide, rfl⟩ rfl (by decide) (List.mem_cons_of_mem _ cm_659) dX4_readModule_56 ?_
        obtain ⟨q24, e_q24, h⟩ := md_ob h
        obtain ⟨hm25, hn25, h⟩ := cd_cks h
        have hM25 : p.2.1 ≤ (Sum.elim (fun (p : Int32 × cd_S × cd_B) => p.2.2) (fun (t : cd_S × cd_B) => t.2) q24).1 ∧ p.2.2 ≤ (Sum.elim (fun (p : Int32 × cd_S × cd_B) => p.2.2) (fun (t : cd_S × cd_B) => t.2) q24).2 := ⟨hm25, hn25⟩
        cases q24 with
        | inr t24 =>
          obtain rfl : t24 = p := Sum.inr.inj (Option.some.inj h)
          have hlx24 := (kx_X4_refuse l D cA E sz ad _ hj oq sgq sgv hE hX n p23.2 (p21.2.2) (2 : Int32) ((cI p23.2 329 0)) t24 e_q24).1
          exact hp_callQv (As := [.int 2, .int (cI p23.2 329 0)]) (rest := []) cx hw hno ((kx_X4_refuse l D cA E _ ad _ hj oq sgq sgv hE hX n p23.2 (p21.2.2) (2 : Int32) ((cI p23.2 329 0)) t24 e_q24).2) (cwV 2 cx.2.2.2.2.2.1 (cd_giV cm_660 cm_661 cm_662 cm_663 cm_664) rfl rfl rfl hdc_X4_refuse ⟨Nat.le_of_ble_eq_true rfl, Nat.le_of_ble_eq_true rfl⟩) (cd_atO hj (by decide) (by decide)) rfl rfl hl.1 rfl (Nat.le_of_ble_eq_true rfl) dX4_readModule_59 ⟨by (try dsimp only); omega, by (try dsimp only); omega⟩ (by omega) (by omega)
        | inl p24 =>
          have hle24 := (kc_X4_refuse l D cA E sz ad _ hj oq sgq sgv hE n p23.2 (p21.2.2) (2 : Int32) ((cI p23.2 329 0)) p24 e_q24).1
          have hM10025 : p.2.1 ≤ p24.2.2.1 ∧ p.2.2 ≤ p24.2.2.2 := hM25
          have h := cd_inl h
          refine hp_callVv (As := [.int 2, .int (cI p23.2 329 0)]) (rest := []) cx hw ((kc_X4_refuse l D cA E _ ad _ hj oq sgq sgv hE n p23.2 (p21.2.2) (2 : Int32) ((cI p23.2 329 0)) p24 e_q24).2) (cwV 2 cx.2.2.2.2.2.1 (cd_giV cm_660 cm_661 cm_662 cm_663 cm_664) rfl rfl rfl hdc_X4_refuse ⟨Nat.le_of_ble_eq_true rfl, Nat.le_of_ble_eq_true rfl⟩) (cd_atO hj (by decide) (by decide)) rfl rfl hl.1 rfl (Nat.le_of_ble_eq_true rfl) dX4_readModule_59 ⟨by (try dsimp only); omega, by (try dsimp only); omega⟩ (fun u H locs hp hw => ?_)
          obtain ⟨ca, hj, rfl⟩ := hp
          refine W.widen (k := b0.1 - p24.2.2.1) (n := b0.2 - p24.2.2.2) (by omega) (by omega) ?_
          exact J62 _ hj p24.2.1 (p24.2.2) _ _ _ (by omega) (by omega) (by omega) (by omega) h hw (lv_sub hl [0] rfl)
  refine lv_aload_n cx.1 cx.2.1 dX4_readModule_0 rfl (lv_at hl 0 rfl) ?_
  refine cd_gO (o2 := 10) (e2 := 0) (o := 4) (k := 0) (f := 128) hj cx hw hic4 rfl ⟨by decide, rfl, by decide, rfl⟩ rfl (by decide) ⟨rfl, rfl⟩ (List.mem_cons_of_mem _ cm_658) dX4_readModule_1 ?_
  obtain ⟨p26, e_p26, h⟩ := md_ob h
  refine hp_callVv (As := []) (rest := []) cx hw (kc_X10_advance l D cA E _ ad _ hj oq sgq sgv hE n σ0  p26 e_p26) (cwV 0 cx.2.2.2.2.2.1 (cd_giV cm_670 cm_671 cm_672 cm_301 cm_673) rfl rfl rfl hdc_X10_advance ⟨Nat.le_of_ble_eq_true rfl, Nat.le_of_ble_eq_true rfl⟩) (cd_atO hj (by decide) (by decide)) rfl rfl hl.1 rfl (Nat.le_of_ble_eq_true rfl) dX4_readModule_4 ⟨by (try dsimp only); omega, by (try dsimp only); omega⟩ (fun u H locs hp hw => ?_)
  obtain ⟨ca, hj, rfl⟩ := hp
  refine lv_aload_n cx.1 cx.2.1 dX4_readModule_7 rfl (lv_at hl 0 rfl) ?_
  obtain ⟨q27, e_q27, h⟩ := md_ob h
  obtain ⟨hm28, hn28, h⟩ := cd_cks h
  have hM28 : p.2.1 ≤ (Sum.elim (fun (p : Int32 × cd_S × cd_B) => p.2.2) (fun (t : cd_S × cd_B) => t.2) q27).1 ∧ p.2.2 ≤ (Sum.elim (fun (p : Int32 × cd_S × cd_B) => p.2.2) (fun (t : cd_S × cd_B) => t.2) q27).2 := ⟨hm28, hn28⟩
  cases q27 with
  | inr t27 =>
    obtain rfl : t27 = p := Sum.inr.inj (Option.some.inj h)
    have hlx27 := (kx_X4_needName l D cA E sz ad _ hj oq sgq sgv hE hX n p26.2 b0  t27 e_q27).1
    exact hp_callQv (As := []) (rest := []) cx hw hno ((kx_X4_needName l D cA E _ ad _ hj oq sgq sgv hE hX n p26.2 b0  t27 e_q27).2) (cwV 0 cx.2.2.2.2.2.1 (cd_giV cm_687 cm_688 cm_689 cm_663 cm_690) rfl rfl rfl hdc_X4_needName ⟨Nat.le_of_ble_eq_true rfl, Nat.le_of_ble_eq_true rfl⟩) (cd_atO hj (by decide) (by decide)) rfl rfl hl.1 rfl (Nat.le_of_ble_eq_true rfl) dX4_readModule_8 ⟨by (try dsimp only); omega, by (try dsimp only); omega⟩ (by omega) (by omega)
  | inl p27 =>
    have hle27 := (kc_X4_needName l D cA E sz ad _ hj oq sgq sgv hE n p26.2 b0  p27 e_q27).1
    have hM10028 : p.2.1 ≤ p27.2.2.1 ∧ p.2.2 ≤ p27.2.2.2 := hM28
    have h := cd_inl h
    refine hp_callVv (As := []) (rest := []) cx hw ((kc_X4_needName l D cA E _ ad _ hj oq sgq sgv hE n p26.2 b0  p27 e_q27).2) (cwV 0 cx.2.2.2.2.2.1 (cd_giV cm_687 cm_688 cm_689 cm_663 cm_690) rfl rfl rfl hdc_X4_needName ⟨Nat.le_of_ble_eq_true rfl, Nat.le_of_ble_eq_true rfl⟩) (cd_atO hj (by decide) (by decide)) rfl rfl hl.1 rfl (Nat.le_of_ble_eq_true rfl) dX4_readModule_8 ⟨by (try dsimp only); omega, by (try dsimp only); omega⟩ (fun u H locs hp hw => ?_)
    obtain ⟨ca, hj, rfl⟩ := hp
    refine W.widen (k := b0.1 - p27.2.2.1) (n := b0.2 - p27.2.2.2) (by omega) (by omega) ?_
    refine lv_aload_n cx.1 cx.2.1 dX4_readModule_11 rfl (lv_at hl 0 rfl) ?_
    refine lv_aload_n cx.1 cx.2.1 dX4_readModule_12 rfl (lv_at hl 0 rfl) ?_
    refine cd_gO (o2 := 2) (e2 := 0) (o := 4) (k := 1) (f := 129) hj cx hw hic4 rfl ⟨by decide, rfl, by decide, rfl⟩ rfl (by decide) ⟨rfl, rfl⟩ (List.mem_cons_of_mem _ cm_722) dX4_readModule_13 ?_
    refine cd_gI (o := 2) (k := 10) (f := 74) hj cx hw hic2 rfl ⟨by decide, rfl, by decide, rfl⟩ rfl (by decide) (List.mem_cons_of_mem _ cm_733) dX4_readModule_16 ?_
    refine lv_bipush (v := 8) cx.1 cx.2.1 dX4_readModule_19 (by decide) ?_
    refine lv_icmp_ge (tgt := 28) cx.1 cx.2.1 dX4_readModule_21 (by decide) (fun c21 => ?_) (fun c21 => ?_)
    · have h := md_ip c21 h
      refine lv_iconst (v := 0) cx.1 cx.2.1 dX4_readModule_28 (by decide) ?_
      exact J29 _ hj p27.2.1 (p27.2.2) 0 _ _ _ (by omega) (by omega) (by omega) (by omega) h hw (lv_sub hl [0] rfl)
    · have h := md_in c21 h
      refine lv_iconst (v := 1) cx.1 cx.2.1 dX4_readModule_24 (by decide) ?_
      refine lv_goto (tgt := 29) cx.1 cx.2.1 dX4_readModule_25 (by decide) ?_
      exact J29 _ hj p27.2.1 (p27.2.2) 1 _ _ _ (by omega) (by omega) (by omega) (by omega) h hw (lv_sub hl [0] rfl)
set_option maxHeartbeats 4000000 in
set_option maxRecDepth 100000 in
theorem kx_X11_program (l : Launch) (D : va_G) (cA : Nat → ClassId) (E : hp_N) (sz : Nat) (ad : Nat → Nat → Nat) (ca0 : Nat → Nat) (hj : cd_inj ad ca0) (oq sgq sgv : Nat) (hE : cd_E E oq sgq sgv) (hX : cd_X l E) (n : Nat) (σ0 : cd_S) (b0 : cd_B) (p : (cd_S × cd_B)) (h : f_X11_program n σ0 b0 = some (Sum.inr p)) : (p.2.1 ≤ b0.1 ∧ p.2.2 ≤ b0.2) ∧ vx_Met l yX11_program (Cond.code yX11_program cX11_program 3 (some .int) :: v_CLS) ({ frames := 419, cells := b0.1 - p.2.1, slots := b0.2 - p.2.2, locals := 10750 }) (hp_Pc D vwCl (hp_Tl cA) E sz (cd_pic cA ad ca0 σ0) [.ref (ad 11 0)]) (hp_Qv D vwCl (hp_Tl cA) sz (cd_pic cA ad ca0 σ0) (fun _ => False)) (hp_XQ D vwCl (hp_Tl cA) "java/lang/IllegalArgumentException" (cd_pic cA ad ca0 σ0) sz (fun u => ∃ ca1, cd_inj ad ca1 ∧ u = cd_pic cA ad ca1 p.1)) (b0.1 - p.2.1) (b0.2 - p.2.2) (hp_A (cd_pic cA ad ca0 σ0) sz) := by
  obtain ⟨hm0, hn0, h⟩ := cd_cks h
  have hM0 : p.2.1 ≤ b0.1 ∧ p.2.2 ≤ b0.2 := ⟨hm0, hn0⟩
  refine ⟨hM0, ?_⟩
  refine hp_ofWx (cc := cX11_program) (maxL := 3) (ret := (some .int)) (by decide) rfl (Nat.le_of_ble_eq_true rfl) ?_
  intro pp ee ss mm bb mt cd ls cx hsz hw hl hno
  have hl : lv_has ls 3 [(0, .ref (ad 11 0))] := hl
  refine W.widen (k := b0.1 - b0.1) (n := b0.2 - b0.2) (Nat.zero_le _) (Nat.zero_le _) ?_
  refine lv_aload_n cx.1 cx.2.1 dX11_program_0 rfl (lv_at hl 0 rfl) ?_
  refine cd_gI (o := 11) (k := 1) (f := 353) hj cx hw hic11 rfl ⟨by decide, rfl, by decide, rfl⟩ rfl (by decide) (List.mem_cons_of_mem _ cm_1099) dX11_program_1 ?_
  refine lv_istore_n (lv' := [(1, .int (cI σ0 353 0)), (0, .ref (ad 11 0))]) cx.1 cx.2.1 dX11_program_4 rfl hl (by decide) rfl (fun ls hl => ?_)
  refine lv_aload_n cx.1 cx.2.1 dX11_program_5 rfl (lv_at hl 1 rfl) ?_
  refine lv_iconst (v := 0) cx.1 cx.2.1 dX11_program_6 (by decide) ?_
  obtain ⟨σ1, e_σ1, h⟩ := md_ob h
  refine cd_pI (o := 11) (k := 1) (f := 353) hj cx hw hic11 rfl ⟨by decide, rfl, by decide, rfl⟩ tyX11_ok nmX11 rfl (by decide) rfl (List.mem_cons_of_mem _ cm_1099) rfl e_σ1 dX11_program_7 (fun H locs hw => ?_)
  refine lv_aload_n cx.1 cx.2.1 dX11_program_10 rfl (lv_at hl 1 rfl) ?_
  refine lv_iconst (v := 0) cx.1 cx.2.1 dX11_program_11 (by decide) ?_
  obtain ⟨σ2, e_σ2, h⟩ := md_ob h
  refine cd_pZ (o := 11) (k := 10) (f := 362) hj cx hw hic11 rfl ⟨by decide, rfl, by decide, rfl⟩ tyX11_ok nmX11 rfl (by decide) rfl (List.mem_cons_of_mem _ cm_1106) rfl (by decide) e_σ2 dX11_program_12 (fun H locs hw => ?_)
  refine lv_aload_n cx.1 cx.2.1 dX11_program_15 rfl (lv_at hl 1 rfl) ?_
  refine cd_gO (o2 := 1) (e2 := 0) (o := 11) (k := 7) (f := 359) hj cx hw hic11 rfl ⟨by decide, rfl, by decide, rfl⟩ rfl (by decide) ⟨rfl, rfl⟩ (List.mem_cons_of_mem _ cm_1107) dX11_program_16 ?_
  obtain ⟨p3, e_p3, h⟩ := md_ob h
  refine hp_callVv (As := []) (rest := []) cx hw (kc_X1_forget l D cA E _ ad _ hj oq sgq sgv hE n σ2  p3 e_p3) (cwV 0 cx.2.2.2.2.2.1 (cd_giV cm_1108 cm_1109 cm_1110 cm_130 cm_1111) rfl rfl rfl hdc_X1_forget ⟨Nat.le_of_ble_eq_true rfl, Nat.le_of_ble_eq_true rfl⟩) (cd_atO hj (by decide) (by decide)) rfl rfl hl.1 rfl (Nat.le_of_ble_eq_true rfl) dX11_program_19 ⟨by (try dsimp only); omega, by (try dsimp only); omega⟩ (fun u H locs hp hw => ?_)
  obtain ⟨ca, hj, rfl⟩ := hp
  refine lv_aload_n cx.1 cx.2.1 dX11_program_22 rfl (lv_at hl 1 rfl) ?_
  refine cd_gO (o2 := 8) (e2 := 0) (o := 11) (k := 6) (f := 358) hj cx hw hic11 rfl ⟨by decide, rfl, by decide, rfl⟩ rfl (by decide) ⟨rfl, rfl⟩ (List.mem_cons_of_mem _ cm_1112) dX11_program_23 ?_
  obtain ⟨p4, e_p4, h⟩ := md_ob h
  refine hp_callVv (As := []) (rest := []) cx hw (kc_X8_forget l D cA E _ ad _ hj oq sgq sgv hE n p3.2  p4 e_p4) (cwV 0 cx.2.2.2.2.2.1 (cd_giV cm_1113 cm_1114 cm_1115 cm_996 cm_1116) rfl rfl rfl hdc_X8_forget ⟨Nat.le_of_ble_eq_true rfl, Nat.le_of_ble_eq_true rfl⟩) (cd_atO hj (by decide) (by decide)) rfl rfl hl.1 rfl (Nat.le_of_ble_eq_true rfl) dX11_program_26 ⟨by (try dsimp only); omega, by (try dsimp only); omega⟩ (fun u H locs hp hw => ?_)
  obtain ⟨ca, hj, rfl⟩ := hp
  refine lv_aload_n cx.1 cx.2.1 dX11_program_29 rfl (lv_at hl 1 rfl) ?_
  refine cd_gO (o2 := 10) (e2 := 0) (o := 11) (k := 2) (f := 354) hj cx hw hic11 rfl ⟨by decide, rfl, by decide, rfl⟩ rfl (by decide) ⟨rfl, rfl⟩ (List.mem_cons_of_mem _ cm_1117) dX11_program_30 ?_
  refine lv_aload_n cx.1 cx.2.1 dX11_program_33 rfl (lv_at hl 1 rfl) ?_
  refine cd_gA (o := 11) (k := 0) (f := 352) hj cx hw hic11 rfl ⟨by decide, rfl, by decide, rfl⟩ rfl (by decide) (List.mem_cons_of_mem _ cm_1100) dX11_program_34 ?_
  refine lv_iload_n cx.1 cx.2.1 dX11_program_37 rfl (lv_at hl 0 rfl) ?_
  refine lv_iconst (v := 4) cx.1 cx.2.1 dX11_program_38 (by decide) ?_
  obtain ⟨p5, e_p5, h⟩ := md_ob h
  obtain ⟨hm6, hn6, h⟩ := cd_cks h
  have hM6 : p.2.1 ≤ p5.2.2.1 ∧ p.2.2 ≤ p5.2.2.2 := ⟨hm6, hn6⟩
  have hle5 := (kc_X10_begin l D cA E sz ad _ hj oq sgq sgv hE n p4.2 b0 ((cI σ0 353 0)) (4 : Int32) p5 e_p5).1
  refine hp_callVv (As := [.ref (ad 452 0), .int (cI σ0 353 0), .int 4]) (rest := []) cx hw ((kc_X10_begin l D cA E _ ad _ hj oq sgq sgv hE n p4.2 b0 ((cI σ0 353 0)) (4 : Int32) p5 e_p5).2) (cwV 3 cx.2.2.2.2.2.1 (cd_giV cm_1118 cm_1119 cm_1120 cm_301 cm_1121) rfl rfl rfl hdc_X10_begin ⟨Nat.le_of_ble_eq_true rfl, Nat.le_of_ble_eq_true rfl⟩) (cd_atO hj (by decide) (by decide)) rfl rfl hl.1 rfl (Nat.le_of_ble_eq_true rfl) dX11_program_39 ⟨by (try dsimp only); omega, by (try dsimp only); omega⟩ (fun u H locs hp hw => ?_)
  obtain ⟨ca, hj, rfl⟩ := hp
  refine W.widen (k := b0.1 - p5.2.2.1) (n := b0.2 - p5.2.2.2) (by omega) (by omega) ?_
  refine lv_aload_n cx.1 cx.2.1 dX11_program_42 rfl (lv_at hl 1 rfl) ?_
  refine cd_gO (o2 := 4) (e2 := 0) (o := 11) (k := 5) (f := 357) hj cx hw hic11 rfl ⟨by decide, rfl, by decide, rfl⟩ rfl (by decide) ⟨rfl, rfl⟩ (List.mem_cons_of_mem _ cm_1122) dX11_program_43 ?_
  obtain ⟨q7, e_q7, h⟩ := md_ob h
  obtain ⟨hm8, hn8, h⟩ := cd_cks h
  have hM8 : p.2.1 ≤ (Sum.elim (fun (p : Int32 × cd_S × cd_B) => p.2.2) (fun (t : cd_S × cd_B) => t.2) q7).1 ∧ p.2.2 ≤ (Sum.elim (fun (p : Int32 × cd_S × cd_B) => p.2.2) (fun (t : cd_S × cd_B) => t.2) q7).2 := ⟨hm8, hn8⟩
  cases q7 with
  | inr t7 =>
    obtain rfl : t7 = p := Sum.inr.inj (Option.some.inj h)
    have hlx7 := (kx_X4_readGrants l D cA E sz ad _ hj oq sgq sgv hE hX n p5.2.1 (p5.2.2)  t7 e_q7).1
    exact hp_callQv (As := []) (rest := []) cx hw hno ((kx_X4_readGrants l D cA E _ ad _ hj oq sgq sgv hE hX n p5.2.1 (p5.2.2)  t7 e_q7).2) (cwV 0 cx.2.2.2.2.2.1 (cd_giV cm_1123 cm_1124 cm_1125 cm_663 cm_1126) rfl rfl rfl hdc_X4_readGrants ⟨Nat.le_of_ble_eq_true rfl, Nat.le_of_ble_eq_true rfl⟩) (cd_atO hj (by decide) (by decide)) rfl rfl hl.1 rfl (Nat.le_of_ble_eq_true rfl) dX11_program_46 ⟨by (try dsimp only); omega, by (try dsimp only); omega⟩ (by omega) (by omega)
  | inl p7 =>
    have hle7 := (kc_X4_readGrants l D cA E sz ad _ hj oq sgq sgv hE n p5.2.1 (p5.2.2)  p7 e_q7).1
    have hM10008 : p.2.1 ≤ p7.2.2.1 ∧ p.2.2 ≤ p7.2.2.2 := hM8
    have h := cd_inl h
    refine hp_callVv (As := []) (rest := []) cx hw ((kc_X4_readGrants l D cA E _ ad _ hj oq sgq sgv hE n p5.2.1 (p5.2.2)  p7 e_q7).2) (cwV 0 cx.2.2.2.2.2.1 (cd_giV cm_1123 cm_1124 cm_1125 cm_663 cm_1126) rfl rfl rfl hdc_X4_readGrants ⟨Nat.le_of_ble_eq_true rfl, Nat.le_of_ble_eq_true rfl⟩) (cd_atO hj (by decide) (by decide)) rfl rfl hl.1 rfl (Nat.le_of_ble_eq_true rfl) dX11_program_46 ⟨by (try dsimp only); omega, by (try dsimp only); omega⟩ (fun u H locs hp hw => ?_)
    obtain ⟨ca, hj, rfl⟩ := hp
    refine W.widen (k := b0.1 - p7.2.2.1) (n := b0.2 - p7.2.2.2) (by omega) (by omega) ?_
    refine lv_iconst (v := 0) cx.1 cx.2.1 dX11_program_49 (by decide) ?_
    refine lv_istore_n (lv' := [(2, .int 0), (1, .int (cI σ0 353 0)), (0, .ref (ad 11 0))]) cx.1 cx.2.1 dX11_program_50 rfl hl (by decide) rfl (fun ls hl => ?_)
    have L51 : ∀ (j : Nat) (ca : Nat → Nat) (hj : cd_inj ad ca) (σ : cd_S) (b : cd_B) (l2 : Int32) (q : (((Int32 × cd_S × cd_B) ⊕ (cd_S × cd_B)) ⊕ (cd_S × cd_B × Int32))) (H : Heap) (locs : List Loc) (ls : Array Slot), b.1 ≤ b0.1 → b.2 ≤ b0.2 → p.2.1 ≤ b.1 → p.2.2 ≤ b.2 → p.2.1 ≤ (Sum.elim (fun (q : ((Int32 × cd_S × cd_B) ⊕ (cd_S × cd_B))) => Sum.elim (fun (p : (Int32 × cd_S × cd_B)) => p.2.2) (fun (t : cd_S × cd_B) => t.2) q) (fun (q : cd_S × cd_B × Int32) => q.2.1) q).1 → p.2.2 ≤ (Sum.elim (fun (q : ((Int32 × cd_S × cd_B) ⊕ (cd_S × cd_B))) => Sum.elim (fun (p : (Int32 × cd_S × cd_B)) => p.2.2) (fun (t : cd_S × cd_B) => t.2) q) (fun (q : cd_S × cd_B × Int32) => q.2.1) q).2 → f_X11_program_L51 n j σ b l2 = some q → hp_w D vwCl (hp_Tl cA) E (hp_A (cd_pic cA ad ca0 σ0) sz) ss H locs (cd_pic cA ad ca σ) → lv_has ls 3 [(0, .ref (ad 11 0)), (2, .int l2)] → (∀ t, q = Sum.inr t → (∀ (ca : Nat → Nat) (hj : cd_inj ad ca) (H : Heap) (locs : List Loc) (ls : Array Slot), t.2.1.1 ≤ b0.1 → t.2.1.2 ≤ b0.2 → hp_w D vwCl (hp_Tl cA) E (hp_A (cd_pic cA ad ca0 σ0) sz) ss H locs (cd_pic cA ad ca t.1) → lv_has ls 3 [(0, .ref (ad 11 0))] → W pp l ee ({ frames := 419, cells := b0.1 - p.2.1, slots := b0.2 - p.2.2, locals := 10750 }) ss mm [.ref (ad 11 0)].toArray bb mt cd H locs (b0.1 - t.2.1.1) (b0.2 - t.2.1.2) (vx_MQ bb (hp_Qv D vwCl (hp_Tl cA) sz (cd_pic cA ad ca0 σ0) (fun _ => False)) (hp_XQ D vwCl (hp_Tl cA) "java/lang/IllegalArgumentException" (cd_pic cA ad ca0 σ0) sz (fun u => ∃ ca1, cd_inj ad ca1 ∧ u = cd_pic cA ad ca1 p.1)) [.ref (ad 11 0)].toArray ss (b0.1 - p.2.1) (b0.2 - p.2.2) (hp_A (cd_pic cA ad ca0 σ0) sz)) (F0 mm 80 ls []))) → (∀ r, q = Sum.inl r → r = Sum.inr p) → W pp l ee ({ frames := 419, cells := b0.1 - p.2.1, slots := b0.2 - p.2.2, locals := 10750 }) ss mm [.ref (ad 11 0)].toArray bb mt cd H locs (b0.1 - b.1) (b0.2 - b.2) (vx_MQ bb (hp_Qv D vwCl (hp_Tl cA) sz (cd_pic cA ad ca0 σ0) (fun _ => False)) (hp_XQ D vwCl (hp_Tl cA) "java/lang/IllegalArgumentException" (cd_pic cA ad ca0 σ0) sz (fun u => ∃ ca1, cd_inj ad ca1 ∧ u = cd_pic cA ad ca1 p.1)) [.ref (ad 11 0)].toArray ss (b0.1 - p.2.1) (b0.2 - p.2.2) (hp_A (cd_pic cA ad ca0 σ0) sz)) (F0 mm 51 ls []) := by
      intro j
      induction j with
      | zero => intro ca hj σ b l2 q H locs ls hb1 hb2 hf1 hf2 hq1 hq2 h; exact nomatch h
      | succ j ih =>
        intro ca hj σ b l2 q H locs ls hb1 hb2 hf1 hf2 hq1 hq2 h hw hl K KR
        unfold f_X11_program_L51 at h
        refine lv_iload_n cx.1 cx.2.1 dX11_program_51 rfl (lv_at hl 1 rfl) ?_
        refine lv_bipush (v := 8) cx.1 cx.2.1 dX11_program_52 (by decide) ?_
        refine lv_icmp_gt (tgt := 80) cx.1 cx.2.1 dX11_program_54 (by decide) (fun c54 => ?_) (fun c54 => ?_)
        · have h := md_ip c54 h
          exact K _ (Option.some.inj h).symm _ hj _ _ _ (by (try dsimp only); omega) (by (try dsimp only); omega) hw (lv_sub hl [0] rfl)
        · have h := md_in c54 h
          refine lv_aload_n cx.1 cx.2.1 dX11_program_57 rfl (lv_at hl 0 rfl) ?_
          refine cd_gO (o2 := 4) (e2 := 0) (o := 11) (k := 5) (f := 357) hj cx hw hic11 rfl ⟨by decide, rfl, by decide, rfl⟩ rfl (by decide) ⟨rfl, rfl⟩ (List.mem_cons_of_mem _ cm_1122) dX11_program_58 ?_
          obtain ⟨q9, e_q9, h⟩ := md_ob h
          obtain ⟨hm10, hn10, h⟩ := cd_cks h
          have hM10 : p.2.1 ≤ (Sum.elim (fun (p : Int32 × cd_S × cd_B) => p.2.2) (fun (t : cd_S × cd_B) => t.2) q9).1 ∧ p.2.2 ≤ (Sum.elim (fun (p : Int32 × cd_S × cd_B) => p.2.2) (fun (t : cd_S × cd_B) => t.2) q9).2 := ⟨Nat.le_trans hq1 hm10, Nat.le_trans hq2 hn10⟩
          cases q9 with
          | inr t9 =>
            obtain rfl : t9 = p := Sum.inr.inj (KR _ (Option.some.inj h).symm)
            have hlx9 := (kx_X4_hasModule l D cA E sz ad _ hj oq sgq sgv hE hX n σ b  t9 e_q9).1
            exact hp_callQv (As := []) (rest := []) cx hw hno ((kx_X4_hasModule l D cA E _ ad _ hj oq sgq sgv hE hX n σ b  t9 e_q9).2) (cwV 0 cx.2.2.2.2.2.1 (cd_giV cm_1127 cm_1128 cm_1129 cm_663 cm_1130) rfl rfl rfl hdc_X4_hasModule ⟨Nat.le_of_ble_eq_true rfl, Nat.le_of_ble_eq_true rfl⟩) (cd_atO hj (by decide) (by decide)) rfl rfl hl.1 rfl (Nat.le_of_ble_eq_true rfl) dX11_program_61 ⟨by (try dsimp only); omega, by (try dsimp only); omega⟩ (by omega) (by omega)
          | inl p9 =>
            have hle9 := (kc_X4_hasModule l D cA E sz ad _ hj oq sgq sgv hE n σ b  p9 e_q9).1
            have hM10010 : p.2.1 ≤ p9.2.2.1 ∧ p.2.2 ≤ p9.2.2.2 := hM10
            have h := cd_inl h
            refine hp_callVi (As := []) (rest := []) cx hw ((kc_X4_hasModule l D cA E _ ad _ hj oq sgq sgv hE n σ b  p9 e_q9).2) (cwV 0 cx.2.2.2.2.2.1 (cd_giV cm_1127 cm_1128 cm_1129 cm_663 cm_1130) rfl rfl rfl hdc_X4_hasModule ⟨Nat.le_of_ble_eq_true rfl, Nat.le_of_ble_eq_true rfl⟩) (cd_atO hj (by decide) (by decide)) rfl rfl hl.1 rfl (Nat.le_of_ble_eq_true rfl) dX11_program_61 ⟨by (try dsimp only); omega, by (try dsimp only); omega⟩ (fun r u H locs hp hw => ?_)
            obtain ⟨rfl, ca, hj, rfl⟩ := hp
            refine W.widen (k := b0.1 - p9.2.2.1) (n := b0.2 - p9.2.2.2) (by omega) (by omega) ?_
            refine lv_if_eq (tgt := 80) cx.1 cx.2.1 dX11_program_64 (by decide) (fun c64 => ?_) (fun c64 => ?_)
            · have h := md_ip c64 h
              exact K _ (Option.some.inj h).symm _ hj _ _ _ (by (try dsimp only); omega) (by (try dsimp only); omega) hw (lv_sub hl [0] rfl)
            · have h := md_in c64 h
              refine lv_aload_n cx.1 cx.2.1 dX11_program_67 rfl (lv_at hl 0 rfl) ?_
              refine cd_gO (o2 := 4) (e2 := 0) (o := 11) (k := 5) (f := 357) hj cx hw hic11 rfl ⟨by decide, rfl, by decide, rfl⟩ rfl (by decide) ⟨rfl, rfl⟩ (List.mem_cons_of_mem _ cm_1122) dX11_program_68 ?_
              obtain ⟨q11, e_q11, h⟩ := md_ob h
              obtain ⟨hm12, hn12, h⟩ := cd_cks h
              have hM12 : p.2.1 ≤ (Sum.elim (fun (p : Int32 × cd_S × cd_B) => p.2.2) (fun (t : cd_S × cd_B) => t.2) q11).1 ∧ p.2.2 ≤ (Sum.elim (fun (p : Int32 × cd_S × cd_B) => p.2.2) (fun (t : cd_S × cd_B) => t.2) q11).2 := ⟨Nat.le_trans hq1 hm12, Nat.le_trans hq2 hn12⟩
              cases q11 with
              | inr t11 =>
                obtain rfl : t11 = p := Sum.inr.inj (KR _ (Option.some.inj h).symm)
                have hlx11 := (kx_X4_readModule l D cA E sz ad _ hj oq sgq sgv hE hX n p9.2.1 (p9.2.2)  t11 e_q11).1
                exact hp_callQv (As := []) (rest := []) cx hw hno ((kx_X4_readModule l D cA E _ ad _ hj oq sgq sgv hE hX n p9.2.1 (p9.2.2)  t11 e_q11).2) (cwV 0 cx.2.2.2.2.2.1 (cd_giV cm_1131 cm_1132 cm_1133 cm_663 cm_1134) rfl rfl rfl hdc_X4_readModule ⟨Nat.le_of_ble_eq_true rfl, Nat.le_of_ble_eq_true rfl⟩) (cd_atO hj (by decide) (by decide)) rfl rfl hl.1 rfl (Nat.le_of_ble_eq_true rfl) dX11_program_71 ⟨by (try dsimp only); omega, by (try dsimp only); omega⟩ (by omega) (by omega)
              | inl p11 =>
                have hle11 := (kc_X4_readModule l D cA E sz ad _ hj oq sgq sgv hE n p9.2.1 (p9.2.2)  p11 e_q11).1
                have hM10012 : p.2.1 ≤ p11.2.2.1 ∧ p.2.2 ≤ p11.2.2.2 := hM12
                have h := cd_inl h
                refine hp_callVv (As := []) (rest := []) cx hw ((kc_X4_readModule l D cA E _ ad _ hj oq sgq sgv hE n p9.2.1 (p9.2.2)  p11 e_q11).2) (cwV 0 cx.2.2.2.2.2.1 (cd_giV cm_1131 cm_1132 cm_1133 cm_663 cm_1134) rfl rfl rfl hdc_X4_readModule ⟨Nat.le_of_ble_eq_true rfl, Nat.le_of_ble_eq_true rfl⟩) (cd_atO hj (by decide) (by decide)) rfl rfl hl.1 rfl (Nat.le_of_ble_eq_true rfl) dX11_program_71 ⟨by (try dsimp only); omega, by (try dsimp only); omega⟩ (fun u H locs hp hw => ?_)
                obtain ⟨ca, hj, rfl⟩ := hp
                refine W.widen (k := b0.1 - p11.2.2.1) (n := b0.2 - p11.2.2.2) (by omega) (by omega) ?_
                refine lv_iinc (v := (l2 + 1)) (lv' := [(2, .int (l2 + 1)), (0, .ref (ad 11 0))]) cx.1 cx.2.1 dX11_program_74 hl (k := 1) rfl rfl (by decide) rfl (fun ls hl => ?_)
                refine lv_goto (tgt := 51) cx.1 cx.2.1 dX11_program_77 (by decide) ?_
                exact ih _ hj p11.2.1 (p11.2.2) ((l2 + 1)) q _ _ _ (by omega) (by omega) (by omega) (by omega) hq1 hq2 h hw (lv_sub hl [1, 0] rfl) K KR
    obtain ⟨q13, e_q13, h⟩ := md_ob h
    obtain ⟨hm14, hn14, h⟩ := cd_cks h
    have hM14 : p.2.1 ≤ (Sum.elim (fun (q : ((Int32 × cd_S × cd_B) ⊕ (cd_S × cd_B))) => Sum.elim (fun (p : (Int32 × cd_S × cd_B)) => p.2.2) (fun (t : cd_S × cd_B) => t.2) q) (fun (q : cd_S × cd_B × Int32) => q.2.1) q13).1 ∧ p.2.2 ≤ (Sum.elim (fun (q : ((Int32 × cd_S × cd_B) ⊕ (cd_S × cd_B))) => Sum.elim (fun (p : (Int32 × cd_S × cd_B)) => p.2.2) (fun (t : cd_S × cd_B) => t.2) q) (fun (q : cd_S × cd_B × Int32) => q.2.1) q13).2 := ⟨hm14, hn14⟩
    refine L51 n _ hj p7.2.1 (p7.2.2) 0 q13 _ _ _ (by omega) (by omega) (by omega) (by omega) hM14.1 hM14.2 e_q13 hw (lv_sub hl [2, 0] rfl) (fun t13 hq13 ca hj H locs ls hb1 hb2 hw hl => ?_) (fun r hr => by subst hr; exact Option.some.inj h)
    subst hq13
    have h := md_inr h
    have hS14 : p.2.1 ≤ t13.2.1.1 ∧ p.2.2 ≤ t13.2.1.2 := hM14
    refine lv_aload_n cx.1 cx.2.1 dX11_program_80 rfl (lv_at hl 0 rfl) ?_
    refine cd_gO (o2 := 2) (e2 := 0) (o := 11) (k := 4) (f := 356) hj cx hw hic11 rfl ⟨by decide, rfl, by decide, rfl⟩ rfl (by decide) ⟨rfl, rfl⟩ (List.mem_cons_of_mem _ cm_1135) dX11_program_81 ?_
    obtain ⟨p15, e_p15, h⟩ := md_ob h
    refine hp_callVv (As := []) (rest := []) cx hw (kc_X2_settleGroups l D cA E _ ad _ hj oq sgq sgv hE n t13.1  p15 e_p15) (cwV 0 cx.2.2.2.2.2.1 (cd_giV cm_1136 cm_1137 cm_1138 cm_167 cm_1139) rfl rfl rfl hdc_X2_settleGroups ⟨Nat.le_of_ble_eq_true rfl, Nat.le_of_ble_eq_true rfl⟩) (cd_atO hj (by decide) (by decide)) rfl rfl hl.1 rfl (Nat.le_of_ble_eq_true rfl) dX11_program_84 ⟨by (try dsimp only); omega, by (try dsimp only); omega⟩ (fun u H locs hp hw => ?_)
    obtain ⟨ca, hj, rfl⟩ := hp
    refine lv_aload_n cx.1 cx.2.1 dX11_program_87 rfl (lv_at hl 0 rfl) ?_
    refine cd_gO (o2 := 8) (e2 := 0) (o := 11) (k := 6) (f := 358) hj cx hw hic11 rfl ⟨by decide, rfl, by decide, rfl⟩ rfl (by decide) ⟨rfl, rfl⟩ (List.mem_cons_of_mem _ cm_1112) dX11_program_88 ?_
    obtain ⟨p16, e_p16, h⟩ := md_ob h
    refine hp_callVv (As := []) (rest := []) cx hw (kc_X8_findNeeds l D cA E _ ad _ hj oq sgq sgv hE n p15.2  p16 e_p16) (cwV 0 cx.2.2.2.2.2.1 (cd_giV cm_1140 cm_1141 cm_1142 cm_996 cm_1143) rfl rfl rfl hdc_X8_findNeeds ⟨Nat.le_of_ble_eq_true rfl, Nat.le_of_ble_eq_true rfl⟩) (cd_atO hj (by decide) (by decide)) rfl rfl hl.1 rfl (Nat.le_of_ble_eq_true rfl) dX11_program_91 ⟨by (try dsimp only); omega, by (try dsimp only); omega⟩ (fun u H locs hp hw => ?_)
    obtain ⟨ca, hj, rfl⟩ := hp
    refine lv_aload_n cx.1 cx.2.1 dX11_program_94 rfl (lv_at hl 0 rfl) ?_
    refine cd_gO (o2 := 2) (e2 := 0) (o := 11) (k := 4) (f := 356) hj cx hw hic11 rfl ⟨by decide, rfl, by decide, rfl⟩ rfl (by decide) ⟨rfl, rfl⟩ (List.mem_cons_of_mem _ cm_1135) dX11_program_95 ?_
    obtain ⟨p17, e_p17, h⟩ := md_ob h
    obtain ⟨hm18, hn18, h⟩ := cd_cks h
    have hM18 : p.2.1 ≤ p17.2.2.1 ∧ p.2.2 ≤ p17.2.2.2 := ⟨hm18, hn18⟩
    have hle17 := (kc_X2_writeCode l D cA E sz ad _ hj oq sgq sgv hE n p16.2 (t13.2.1)  p17 e_p17).1
    refine hp_callVv (As := []) (rest := []) cx hw ((kc_X2_writeCode l D cA E _ ad _ hj oq sgq sgv hE n p16.2 (t13.2.1)  p17 e_p17).2) (cwV 0 cx.2.2.2.2.2.1 (cd_giV cm_1144 cm_1145 cm_1146 cm_167 cm_1147) rfl rfl rfl hdc_X2_writeCode ⟨Nat.le_of_ble_eq_true rfl, Nat.le_of_ble_eq_true rfl⟩) (cd_atO hj (by decide) (by decide)) rfl rfl hl.1 rfl (Nat.le_of_ble_eq_true rfl) dX11_program_98 ⟨by (try dsimp only); omega, by (try dsimp only); omega⟩ (fun u H locs hp hw => ?_)
    obtain ⟨ca, hj, rfl⟩ := hp
    refine W.widen (k := b0.1 - p17.2.2.1) (n := b0.2 - p17.2.2.2) (by omega) (by omega) ?_
    refine lv_aload_n cx.1 cx.2.1 dX11_program_101 rfl (lv_at hl 0 rfl) ?_
    refine lv_iconst (v := 1) cx.1 cx.2.1 dX11_program_102 (by decide) ?_
    obtain ⟨σ19, e_σ19, h⟩ := md_ob h
    refine cd_pZ (o := 11) (k := 10) (f := 362) hj cx hw hic11 rfl ⟨by decide, rfl, by decide, rfl⟩ tyX11_ok nmX11 rfl (by decide) rfl (List.mem_cons_of_mem _ cm_1106) rfl (by decide) e_σ19 dX11_program_103 (fun H locs hw => ?_)
    refine lv_aload_n cx.1 cx.2.1 dX11_program_106 rfl (lv_at hl 0 rfl) ?_
    refine cd_gO (o2 := 2) (e2 := 0) (o := 11) (k := 4) (f := 356) hj cx hw hic11 rfl ⟨by decide, rfl, by decide, rfl⟩ rfl (by decide) ⟨rfl, rfl⟩ (List.mem_cons_of_mem _ cm_1135) dX11_program_107 ?_
    refine cd_gI (o := 2) (k := 2) (f := 66) hj cx hw hic2 rfl ⟨by decide, rfl, by decide, rfl⟩ rfl (by decide) (List.mem_cons_of_mem _ cm_1148) dX11_program_110 ?_
    exact nomatch Option.some.inj h
set_option maxHeartbeats 4000000 in
set_option maxRecDepth 100000 in
theorem kx_X11_run (l : Launch) (D : va_G) (cA : Nat → ClassId) (E : hp_N) (sz : Nat) (ad : Nat → Nat → Nat) (ca0 : Nat → Nat) (hj : cd_inj ad ca0) (oq sgq sgv : Nat) (hE : cd_E E oq sgq sgv) (hX : cd_Y l E) (n : Nat) (σ0 : cd_S) (b0 : cd_B) (a1 : Int32) (a2 : Int32) (a3 : Int32) (a4 : Int32) (p : (cd_S × cd_B)) (h : f_X11_run n σ0 b0 a1 a2 a3 a4 = some (Sum.inr (2, p))) : (p.2.1 ≤ b0.1 ∧ p.2.2 ≤ b0.2) ∧ vx_Met l yX11_run (Cond.code yX11_run cX11_run 6 (some .int) :: v_CLS) ({ frames := 12, cells := b0.1 - p.2.1, slots := b0.2 - p.2.2, locals := 256 }) (hp_Pc D vwCl (hp_Tl cA) E sz (cd_pic cA ad ca0 σ0) [.ref (ad 11 0), .int a1, .int a2, .int a3, .int a4]) (hp_Qv D vwCl (hp_Tl cA) sz (cd_pic cA ad ca0 σ0) (fun _ => False)) (hp_XQ D vwCl (hp_Tl cA) "java/lang/IllegalArgumentException" (cd_pic cA ad ca0 σ0) sz (fun u => ∃ ca1, cd_inj ad ca1 ∧ u = cd_pic cA ad ca1 p.1)) (b0.1 - p.2.1) (b0.2 - p.2.2) (hp_A (cd_pic cA ad ca0 σ0) sz) := by
  obtain ⟨hm0, hn0, h⟩ := cd_cks h
  have hM0 : p.2.1 ≤ b0.1 ∧ p.2.2 ≤ b0.2 := ⟨hm0, hn0⟩
  refine ⟨hM0, ?_⟩
  refine hp_ofWx (cc := cX11_run) (maxL := 6) (ret := (some .int)) (by decide) rfl (Nat.le_of_ble_eq_true rfl) ?_
  intro pp ee ss mm bb mt cd ls cx hsz hw hl hno
  have hl : lv_has ls 6 [(0, .ref (ad 11 0)), (1, .int a1), (2, .int a2), (3, .int a3), (4, .int a4)] := hl
  refine W.widen (k := b0.1 - b0.1) (n := b0.2 - b0.2) (Nat.zero_le _) (Nat.zero_le _) ?_
  have J73 : ∀ (ca : Nat → Nat) (hj : cd_inj ad ca) (σ : cd_S) (b : cd_B) (H : Heap) (locs : List Loc) (ls : Array Slot), b.1 ≤ b0.1 → b.2 ≤ b0.2 → p.2.1 ≤ b.1 → p.2.2 ≤ b.2 → f_X11_run_J73 n σ b = some (Sum.inr (2, p)) → hp_w D vwCl (hp_Tl cA) E (hp_A (cd_pic cA ad ca0 σ0) sz) ss H locs (cd_pic cA ad ca σ) → lv_has ls 6 [] → W pp l ee ({ frames := 12, cells := b0.1 - p.2.1, slots := b0.2 - p.2.2, locals := 256 }) ss mm [.ref (ad 11 0), .int a1, .int a2, .int a3, .int a4].toArray bb mt cd H locs (b0.1 - b.1) (b0.2 - b.2) (vx_MQ bb (hp_Qv D vwCl (hp_Tl cA) sz (cd_pic cA ad ca0 σ0) (fun _ => False)) (hp_XQ D vwCl (hp_Tl cA) "java/lang/IllegalArgumentException" (cd_pic cA ad ca0 σ0) sz (fun u => ∃ ca1, cd_inj ad ca1 ∧ u = cd_pic cA ad ca1 p.1)) [.ref (ad 11 0), .int a1, .int a2, .int a3, .int a4].toArray ss (b0.1 - p.2.1) (b0.2 - p.2.2) (hp_A (cd_pic cA ad ca0 σ0) sz)) (F0 mm 73 ls []) := by
    intro ca hj σ b H locs ls hb1 hb2 hf1 hf2 h hw hl
    obtain ⟨b1, e_b1, h⟩ := md_ob h
    have hu := cd_uses e_b1
    obtain rfl : (σ, b1) = p := congrArg Prod.snd (Sum.inr.inj (Option.some.inj h))
    obtain ⟨sr, hsr⟩ := hX.2.2.2.2.2
    exact hp_throwQ (X := "java/lang/IllegalArgumentException") (text := "the unit is no method without parameters") (names := ["java/lang/RuntimeException", "java/lang/Exception"]) cx hw hno ⟨_, hj, rfl⟩ hX.1 (by decide +kernel) (by decide +kernel) (List.mem_cons_of_mem _ cm_1220) (List.mem_cons_of_mem _ cm_1219) hsr (fun w h => List.mem_cons_of_mem _ (hat_X11_217 w h)) (by decide +kernel) (by decide +kernel) hX.2.1 hl.1 dX11_run_73 dX11_run_76 dX11_run_77 dX11_run_79 dX11_run_82 (Nat.le_of_ble_eq_true rfl) (Nat.le_of_ble_eq_true rfl) (by (try dsimp only); omega) (by (try dsimp only); omega) (by (try dsimp only); omega) (by (try dsimp only); omega)
  have J37 : ∀ (ca : Nat → Nat) (hj : cd_inj ad ca) (σ : cd_S) (b : cd_B) (H : Heap) (locs : List Loc) (ls : Array Slot), b.1 ≤ b0.1 → b.2 ≤ b0.2 → p.2.1 ≤ b.1 → p.2.2 ≤ b.2 → f_X11_run_J37 n σ b = some (Sum.inr (2, p)) → hp_w D vwCl (hp_Tl cA) E (hp_A (cd_pic cA ad ca0 σ0) sz) ss H locs (cd_pic cA ad ca σ) → lv_has ls 6 [] → W pp l ee ({ frames := 12, cells := b0.1 - p.2.1, slots := b0.2 - p.2.2, locals := 256 }) ss mm [.ref (ad 11 0), .int a1, .int a2, .int a3, .int a4].toArray bb mt cd H locs (b0.1 - b.1) (b0.2 - b.2) (vx_MQ bb (hp_Qv D vwCl (hp_Tl cA) sz (cd_pic cA ad ca0 σ0) (fun _ => False)) (hp_XQ D vwCl (hp_Tl cA) "java/lang/IllegalArgumentException" (cd_pic cA ad ca0 σ0) sz (fun u => ∃ ca1, cd_inj ad ca1 ∧ u = cd_pic cA ad ca1 p.1)) [.ref (ad 11 0), .int a1, .int a2, .int a3, .int a4].toArray ss (b0.1 - p.2.1) (b0.2 - p.2.2) (hp_A (cd_pic cA ad ca0 σ0) sz)) (F0 mm 37 ls []) := by
    intro ca hj σ b H locs ls hb1 hb2 hf1 hf2 h hw hl
    obtain ⟨b2, e_b2, h⟩ := md_ob h
    have hu := cd_uses e_b2
    obtain rfl : (σ, b2) = p := congrArg Prod.snd (Sum.inr.inj (Option.some.inj h))
    obtain ⟨sr, hsr⟩ := hX.2.2.2.2.1
    exact hp_throwQ (X := "java/lang/IllegalArgumentException") (text := "no such unit, or no such number of steps") (names := ["java/lang/RuntimeException", "java/lang/Exception"]) cx hw hno ⟨_, hj, rfl⟩ hX.1 (by decide +kernel) (by decide +kernel) (List.mem_cons_of_mem _ cm_1220) (List.mem_cons_of_mem _ cm_1219) hsr (fun w h => List.mem_cons_of_mem _ (hat_X11_217 w h)) (by decide +kernel) (by decide +kernel) hX.2.1 hl.1 dX11_run_37 dX11_run_40 dX11_run_41 dX11_run_43 dX11_run_46 (Nat.le_of_ble_eq_true rfl) (Nat.le_of_ble_eq_true rfl) (by (try dsimp only); omega) (by (try dsimp only); omega) (by (try dsimp only); omega) (by (try dsimp only); omega)
  refine lv_aload_n cx.1 cx.2.1 dX11_run_0 rfl (lv_at hl 0 rfl) ?_
  refine cd_gI (o := 11) (k := 10) (f := 362) hj cx hw hic11 rfl ⟨by decide, rfl, by decide, rfl⟩ rfl (by decide) (List.mem_cons_of_mem _ cm_1106) dX11_run_1 ?_
  refine lv_if_ne (tgt := 17) cx.1 cx.2.1 dX11_run_4 (by decide) (fun c4 => ?_) (fun c4 => ?_)
  · have h := md_in c4 h
    refine lv_aload_n cx.1 cx.2.1 dX11_run_17 rfl (lv_at hl 0 rfl) ?_
    refine lv_iload_n cx.1 cx.2.1 dX11_run_18 rfl (lv_at hl 1 rfl) ?_
    obtain ⟨p3, e_p3, h⟩ := md_ob h
    refine hp_callVi (As := [.int a1]) (rest := []) cx hw (kc_X11_hasUnit l D cA E _ ad _ hj oq sgq sgv hE n σ0 a1 p3 e_p3) (cwV 1 cx.2.2.2.2.2.1 (cd_giV cm_1155 cm_1156 cm_1157 cm_1104 cm_1158) rfl rfl rfl hdc_X11_hasUnit ⟨Nat.le_of_ble_eq_true rfl, Nat.le_of_ble_eq_true rfl⟩) (cd_atO hj (by decide) (by decide)) rfl rfl hl.1 rfl (Nat.le_of_ble_eq_true rfl) dX11_run_19 ⟨by (try dsimp only); omega, by (try dsimp only); omega⟩ (fun r u H locs hp hw => ?_)
    obtain ⟨rfl, ca, hj, rfl⟩ := hp
    refine lv_if_eq (tgt := 37) cx.1 cx.2.1 dX11_run_22 (by decide) (fun c22 => ?_) (fun c22 => ?_)
    · have h := md_ip c22 h
      exact J37 _ hj p3.2 b0 _ _ _ (by omega) (by omega) (by omega) (by omega) h hw (lv_sub hl [] rfl)
    · have h := md_in c22 h
      refine lv_iload_n cx.1 cx.2.1 dX11_run_25 rfl (lv_at hl 3 rfl) ?_
      refine lv_iconst (v := 1) cx.1 cx.2.1 dX11_run_26 (by decide) ?_
      refine lv_icmp_lt (tgt := 37) cx.1 cx.2.1 dX11_run_27 (by decide) (fun c27 => ?_) (fun c27 => ?_)
      · have h := md_ip c27 h
        exact J37 _ hj p3.2 b0 _ _ _ (by omega) (by omega) (by omega) (by omega) h hw (lv_sub hl [] rfl)
      · have h := md_in c27 h
        refine lv_iload_n cx.1 cx.2.1 dX11_run_30 rfl (lv_at hl 3 rfl) ?_
        refine lv_sipush (v := 4000) cx.1 cx.2.1 dX11_run_31 (by decide) ?_
        refine lv_icmp_le (tgt := 47) cx.1 cx.2.1 dX11_run_34 (by decide) (fun c34 => ?_) (fun c34 => ?_)
        · have h := md_ip c34 h
          refine lv_aload_n cx.1 cx.2.1 dX11_run_47 rfl (lv_at hl 0 rfl) ?_
          refine cd_gO (o2 := 2) (e2 := 0) (o := 11) (k := 4) (f := 356) hj cx hw hic11 rfl ⟨by decide, rfl, by decide, rfl⟩ rfl (by decide) ⟨rfl, rfl⟩ (List.mem_cons_of_mem _ cm_1135) dX11_run_48 ?_
          refine lv_iload_n cx.1 cx.2.1 dX11_run_51 rfl (lv_at hl 1 rfl) ?_
          obtain ⟨p4, e_p4, h⟩ := md_ob h
          refine hp_callVr (As := [.int a1]) (rest := []) cx hw (kc_X2_unitAt l D cA E _ ad _ hj oq sgq sgv hE n p3.2 a1 p4 e_p4) (cwV 1 cx.2.2.2.2.2.1 (cd_giV cm_1159 cm_285 cm_286 cm_167 cm_287) rfl rfl rfl hdc_X2_unitAt ⟨Nat.le_of_ble_eq_true rfl, Nat.le_of_ble_eq_true rfl⟩) (cd_atO hj (by decide) (by decide)) rfl rfl hl.1 rfl (Nat.le_of_ble_eq_true rfl) dX11_run_52 ⟨by (try dsimp only); omega, by (try dsimp only); omega⟩ (fun r u H locs hp hw => ?_)
          obtain ⟨⟨hb_p4, rfl⟩, ca, hj, rfl⟩ := hp
          refine lv_astore (lv' := [(5, .ref (ad 9 p4.1)), (0, .ref (ad 11 0)), (1, .int a1), (2, .int a2), (3, .int a3), (4, .int a4)]) cx.1 cx.2.1 dX11_run_55 hl (by decide) rfl (fun ls hl => ?_)
          refine lv_aload cx.1 cx.2.1 dX11_run_57 (lv_at hl 0 rfl) ?_
          refine cd_gI (o := 9) (k := 1) (f := 289) hj cx hw hic9 rfl ⟨by decide, rfl, by decide, rfl⟩ rfl (show _ < 60 by omega) (List.mem_cons_of_mem _ cm_1191) dX11_run_59 ?_
          refine lv_if_ne (tgt := 73) cx.1 cx.2.1 dX11_run_62 (by decide) (fun c62 => ?_) (fun c62 => ?_)
          · have h := md_in c62 h
            exact J73 _ hj p4.2 b0 _ _ _ (by omega) (by omega) (by omega) (by omega) h hw (lv_sub hl [] rfl)
          · have h := md_ip c62 h
            refine lv_aload cx.1 cx.2.1 dX11_run_65 (lv_at hl 0 rfl) ?_
            refine cd_gI (o := 9) (k := 6) (f := 294) hj cx hw hic9 rfl ⟨by decide, rfl, by decide, rfl⟩ rfl (show _ < 60 by omega) (List.mem_cons_of_mem _ cm_1192) dX11_run_67 ?_
            refine lv_if_eq (tgt := 83) cx.1 cx.2.1 dX11_run_70 (by decide) (fun c70 => ?_) (fun c70 => ?_)
            · have h := md_ip c70 h
              refine lv_aload_n cx.1 cx.2.1 dX11_run_83 rfl (lv_at hl 1 rfl) ?_
              refine cd_gO (o2 := 1) (e2 := 0) (o := 11) (k := 7) (f := 359) hj cx hw hic11 rfl ⟨by decide, rfl, by decide, rfl⟩ rfl (by decide) ⟨rfl, rfl⟩ (List.mem_cons_of_mem _ cm_1107) dX11_run_84 ?_
              refine lv_aload cx.1 cx.2.1 dX11_run_87 (lv_at hl 0 rfl) ?_
              refine lv_iload_n cx.1 cx.2.1 dX11_run_89 rfl (lv_at hl 3 rfl) ?_
              refine lv_iload_n cx.1 cx.2.1 dX11_run_90 rfl (lv_at hl 4 rfl) ?_
              refine lv_iload cx.1 cx.2.1 dX11_run_91 (lv_at hl 5 rfl) ?_
              obtain ⟨p5, e_p5, h⟩ := md_ob h
              obtain ⟨hm6, hn6, h⟩ := cd_cks h
              have hM6 : p.2.1 ≤ p5.2.2.1 ∧ p.2.2 ≤ p5.2.2.2 := ⟨hm6, hn6⟩
              have hle5 := (kc_X1_prepare l D cA E sz ad _ hj oq sgq sgv hE n p4.2 b0 (p4.1) a2 a3 a4 (show _ < 60 by omega) p5 e_p5).1
              refine hp_callVv (As := [.ref (ad 9 p4.1), .int a2, .int a3, .int a4]) (rest := []) cx hw ((kc_X1_prepare l D cA E _ ad _ hj oq sgq sgv hE n p4.2 b0 (p4.1) a2 a3 a4 (show _ < 60 by omega) p5 e_p5).2) (cwV 4 cx.2.2.2.2.2.1 (cd_giV cm_1193 cm_1194 cm_1195 cm_130 cm_1196) rfl rfl rfl hdc_X1_prepare ⟨Nat.le_of_ble_eq_true rfl, Nat.le_of_ble_eq_true rfl⟩) (cd_atO hj (by decide) (by decide)) rfl rfl hl.1 rfl (Nat.le_of_ble_eq_true rfl) dX11_run_93 ⟨by (try dsimp only); omega, by (try dsimp only); omega⟩ (fun u H locs hp hw => ?_)
              obtain ⟨ca, hj, rfl⟩ := hp
              refine W.widen (k := b0.1 - p5.2.2.1) (n := b0.2 - p5.2.2.2) (by omega) (by omega) ?_
              refine lv_aload_n cx.1 cx.2.1 dX11_run_96 rfl (lv_at hl 1 rfl) ?_
              refine cd_gO (o2 := 1) (e2 := 0) (o := 11) (k := 7) (f := 359) hj cx hw hic11 rfl ⟨by decide, rfl, by decide, rfl⟩ rfl (by decide) ⟨rfl, rfl⟩ (List.mem_cons_of_mem _ cm_1107) dX11_run_97 ?_
              obtain ⟨p7, e_p7, h⟩ := md_ob h
              obtain ⟨hm8, hn8, h⟩ := cd_cks h
              have hM8 : p.2.1 ≤ p7.2.2.1 ∧ p.2.2 ≤ p7.2.2.2 := ⟨hm8, hn8⟩
              have hle7 := (kc_X1_goOn l D cA E sz ad _ hj oq sgq sgv hE n p5.2.1 (p5.2.2)  p7 e_p7).1
              refine hp_callVi (As := []) (rest := []) cx hw ((kc_X1_goOn l D cA E _ ad _ hj oq sgq sgv hE n p5.2.1 (p5.2.2)  p7 e_p7).2) (cwV 0 cx.2.2.2.2.2.1 (cd_giV cm_1197 cm_1198 cm_1199 cm_130 cm_1200) rfl rfl rfl hdc_X1_goOn ⟨Nat.le_of_ble_eq_true rfl, Nat.le_of_ble_eq_true rfl⟩) (cd_atO hj (by decide) (by decide)) rfl rfl hl.1 rfl (Nat.le_of_ble_eq_true rfl) dX11_run_100 ⟨by (try dsimp only); omega, by (try dsimp only); omega⟩ (fun r u H locs hp hw => ?_)
              obtain ⟨rfl, ca, hj, rfl⟩ := hp
              refine W.widen (k := b0.1 - p7.2.2.1) (n := b0.2 - p7.2.2.2) (by omega) (by omega) ?_
              exact nomatch Option.some.inj h
            · have h := md_in c70 h
              exact J73 _ hj p4.2 b0 _ _ _ (by omega) (by omega) (by omega) (by omega) h hw (lv_sub hl [] rfl)
        · have h := md_in c34 h
          exact J37 _ hj p3.2 b0 _ _ _ (by omega) (by omega) (by omega) (by omega) h hw (lv_sub hl [] rfl)
  · have h := md_ip c4 h
    obtain ⟨b9, e_b9, h⟩ := md_ob h
    exact absurd (congrArg Prod.fst (Sum.inr.inj (Option.some.inj h))) (by dsimp only; decide)
set_option maxHeartbeats 4000000 in
set_option maxRecDepth 100000 in
theorem ky_X11_run (l : Launch) (D : va_G) (cA : Nat → ClassId) (E : hp_N) (sz : Nat) (ad : Nat → Nat → Nat) (ca0 : Nat → Nat) (hj : cd_inj ad ca0) (oq sgq sgv : Nat) (hE : cd_E E oq sgq sgv) (hX : cd_Y l E) (n : Nat) (σ0 : cd_S) (b0 : cd_B) (a1 : Int32) (a2 : Int32) (a3 : Int32) (a4 : Int32) (p : (cd_S × cd_B)) (h : f_X11_run n σ0 b0 a1 a2 a3 a4 = some (Sum.inr (1, p))) : (p.2.1 ≤ b0.1 ∧ p.2.2 ≤ b0.2) ∧ vx_Met l yX11_run (Cond.code yX11_run cX11_run 6 (some .int) :: v_CLS) ({ frames := 12, cells := b0.1 - p.2.1, slots := b0.2 - p.2.2, locals := 256 }) (hp_Pc D vwCl (hp_Tl cA) E sz (cd_pic cA ad ca0 σ0) [.ref (ad 11 0), .int a1, .int a2, .int a3, .int a4]) (hp_Qv D vwCl (hp_Tl cA) sz (cd_pic cA ad ca0 σ0) (fun _ => False)) (hp_XQ D vwCl (hp_Tl cA) "java/lang/IllegalStateException" (cd_pic cA ad ca0 σ0) sz (fun u => ∃ ca1, cd_inj ad ca1 ∧ u = cd_pic cA ad ca1 p.1)) (b0.1 - p.2.1) (b0.2 - p.2.2) (hp_A (cd_pic cA ad ca0 σ0) sz) := by
  obtain ⟨hm0, hn0, h⟩ := cd_cks h
  have hM0 : p.2.1 ≤ b0.1 ∧ p.2.2 ≤ b0.2 := ⟨hm0, hn0⟩
  refine ⟨hM0, ?_⟩
  refine hp_ofWx (cc := cX11_run) (maxL := 6) (ret := (some .int)) (by decide) rfl (Nat.le_of_ble_eq_true rfl) ?_
  intro pp ee ss mm bb mt cd ls cx hsz hw hl hno
  have hl : lv_has ls 6 [(0, .ref (ad 11 0)), (1, .int a1), (2, .int a2), (3, .int a3), (4, .int a4)] := hl
  refine W.widen (k := b0.1 - b0.1) (n := b0.2 - b0.2) (Nat.zero_le _) (Nat.zero_le _) ?_
  have J73 : ∀ (ca : Nat → Nat) (hj : cd_inj ad ca) (σ : cd_S) (b : cd_B) (H : Heap) (locs : List Loc) (ls : Array Slot), b.1 ≤ b0.1 → b.2 ≤ b0.2 → p.2.1 ≤ b.1 → p.2.2 ≤ b.2 → f_X11_run_J73 n σ b = some (Sum.inr (1, p)) → hp_w D vwCl (hp_Tl cA) E (hp_A (cd_pic cA ad ca0 σ0) sz) ss H locs (cd_pic cA ad ca σ) → lv_has ls 6 [] → W pp l ee ({ frames := 12, cells := b0.1 - p.2.1, slots := b0.2 - p.2.2, locals := 256 }) ss mm [.ref (ad 11 0), .int a1, .int a2, .int a3, .int a4].toArray bb mt cd H locs (b0.1 - b.1) (b0.2 - b.2) (vx_MQ bb (hp_Qv D vwCl (hp_Tl cA) sz (cd_pic cA ad ca0 σ0) (fun _ => False)) (hp_XQ D vwCl (hp_Tl cA) "java/lang/IllegalStateException" (cd_pic cA ad ca0 σ0) sz (fun u => ∃ ca1, cd_inj ad ca1 ∧ u = cd_pic cA ad ca1 p.1)) [.ref (ad 11 0), .int a1, .int a2, .int a3, .int a4].toArray ss (b0.1 - p.2.1) (b0.2 - p.2.2) (hp_A (cd_pic cA ad ca0 σ0) sz)) (F0 mm 73 ls []) := by
    intro ca hj σ b H locs ls hb1 hb2 hf1 hf2 h hw hl
    obtain ⟨b1, e_b1, h⟩ := md_ob h
    exact absurd (congrArg Prod.fst (Sum.inr.inj (Option.some.inj h))) (by dsimp only; decide)
  have J37 : ∀ (ca : Nat → Nat) (hj : cd_inj ad ca) (σ : cd_S) (b : cd_B) (H : Heap) (locs : List Loc) (ls : Array Slot), b.1 ≤ b0.1 → b.2 ≤ b0.2 → p.2.1 ≤ b.1 → p.2.2 ≤ b.2 → f_X11_run_J37 n σ b = some (Sum.inr (1, p)) → hp_w D vwCl (hp_Tl cA) E (hp_A (cd_pic cA ad ca0 σ0) sz) ss H locs (cd_pic cA ad ca σ) → lv_has ls 6 [] → W pp l ee ({ frames := 12, cells := b0.1 - p.2.1, slots := b0.2 - p.2.2, locals := 256 }) ss mm [.ref (ad 11 0), .int a1, .int a2, .int a3, .int a4].toArray bb mt cd H locs (b0.1 - b.1) (b0.2 - b.2) (vx_MQ bb (hp_Qv D vwCl (hp_Tl cA) sz (cd_pic cA ad ca0 σ0) (fun _ => False)) (hp_XQ D vwCl (hp_Tl cA) "java/lang/IllegalStateException" (cd_pic cA ad ca0 σ0) sz (fun u => ∃ ca1, cd_inj ad ca1 ∧ u = cd_pic cA ad ca1 p.1)) [.ref (ad 11 0), .int a1, .int a2, .int a3, .int a4].toArray ss (b0.1 - p.2.1) (b0.2 - p.2.2) (hp_A (cd_pic cA ad ca0 σ0) sz)) (F0 mm 37 ls []) := by
    intro ca hj σ b H locs ls hb1 hb2 hf1 hf2 h hw hl
    obtain ⟨b2, e_b2, h⟩ := md_ob h
    exact absurd (congrArg Prod.fst (Sum.inr.inj (Option.some.inj h))) (by dsimp only; decide)
  refine lv_aload_n cx.1 cx.2.1 dX11_run_0 rfl (lv_at hl 0 rfl) ?_
  refine cd_gI (o := 11) (k := 10) (f := 362) hj cx hw hic11 rfl ⟨by decide, rfl, by decide, rfl⟩ rfl (by decide) (List.mem_cons_of_mem _ cm_1106) dX11_run_1 ?_
  refine lv_if_ne (tgt := 17) cx.1 cx.2.1 dX11_run_4 (by decide) (fun c4 => ?_) (fun c4 => ?_)
  · have h := md_in c4 h
    refine lv_aload_n cx.1 cx.2.1 dX11_run_17 rfl (lv_at hl 0 rfl) ?_
    refine lv_iload_n cx.1 cx.2.1 dX11_run_18 rfl (lv_at hl 1 rfl) ?_
    obtain ⟨p3, e_p3, h⟩ := md_ob h
    refine hp_callVi (As := [.int a1]) (rest := []) cx hw (kc_X11_hasUnit l D cA E _ ad _ hj oq sgq sgv hE n σ0 a1 p3 e_p3) (cwV 1 cx.2.2.2.2.2.1 (cd_giV cm_1155 cm_1156 cm_1157 cm_1104 cm_1158) rfl rfl rfl hdc_X11_hasUnit ⟨Nat.le_of_ble_eq_true rfl, Nat.le_of_ble_eq_true rfl⟩) (cd_atO hj (by decide) (by decide)) rfl rfl hl.1 rfl (Nat.le_of_ble_eq_true rfl) dX11_run_19 ⟨by (try dsimp only); omega, by (try dsimp only); omega⟩ (fun r u H locs hp hw => ?_)
    obtain ⟨rfl, ca, hj, rfl⟩ := hp
    refine lv_if_eq (tgt := 37) cx.1 cx.2.1 dX11_run_22 (by decide) (fun c22 => ?_) (fun c22 => ?_)
    · have h := md_ip c22 h
      exact J37 _ hj p3.2 b0 _ _ _ (by omega) (by omega) (by omega) (by omega) h hw (lv_sub hl [] rfl)
    · have h := md_in c22 h
      refine lv_iload_n cx.1 cx.2.1 dX11_run_25 rfl (lv_at hl 3 rfl) ?_
      refine lv_iconst (v := 1) cx.1 cx.2.1 dX11_run_26 (by decide) ?_
      refine lv_icmp_lt (tgt := 37) cx.1 cx.2.1 dX11_run_27 (by decide) (fun c27 => ?_) (fun c27 => ?_)
      · have h := md_ip c27 h
        exact J37 _ hj p3.2 b0 _ _ _ (by omega) (by omega) (by omega) (by omega) h hw (lv_sub hl [] rfl)
      · have h := md_in c27 h
        refine lv_iload_n cx.1 cx.2.1 dX11_run_30 rfl (lv_at hl 3 rfl) ?_
        refine lv_sipush (v := 4000) cx.1 cx.2.1 dX11_run_31 (by decide) ?_
        refine lv_icmp_le (tgt := 47) cx.1 cx.2.1 dX11_run_34 (by decide) (fun c34 => ?_) (fun c34 => ?_)
        · have h := md_ip c34 h
          refine lv_aload_n cx.1 cx.2.1 dX11_run_47 rfl (lv_at hl 0 rfl) ?_
          refine cd_gO (o2 := 2) (e2 := 0) (o := 11) (k := 4) (f := 356) hj cx hw hic11 rfl ⟨by decide, rfl, by decide, rfl⟩ rfl (by decide) ⟨rfl, rfl⟩ (List.mem_cons_of_mem _ cm_1135) dX11_run_48 ?_
          refine lv_iload_n cx.1 cx.2.1 dX11_run_51 rfl (lv_at hl 1 rfl) ?_
          obtain ⟨p4, e_p4, h⟩ := md_ob h
          refine hp_callVr (As := [.int a1]) (rest := []) cx hw (kc_X2_unitAt l D cA E _ ad _ hj oq sgq sgv hE n p3.2 a1 p4 e_p4) (cwV 1 cx.2.2.2.2.2.1 (cd_giV cm_1159 cm_285 cm_286 cm_167 cm_287) rfl rfl rfl hdc_X2_unitAt ⟨Nat.le_of_ble_eq_true rfl, Nat.le_of_ble_eq_true rfl⟩) (cd_atO hj (by decide) (by decide)) rfl rfl hl.1 rfl (Nat.le_of_ble_eq_true rfl) dX11_run_52 ⟨by (try dsimp only); omega, by (try dsimp only); omega⟩ (fun r u H locs hp hw => ?_)
          obtain ⟨⟨hb_p4, rfl⟩, ca, hj, rfl⟩ := hp
          refine lv_astore (lv' := [(5, .ref (ad 9 p4.1)), (0, .ref (ad 11 0)), (1, .int a1), (2, .int a2), (3, .int a3), (4, .int a4)]) cx.1 cx.2.1 dX11_run_55 hl (by decide) rfl (fun ls hl => ?_)
          refine lv_aload cx.1 cx.2.1 dX11_run_57 (lv_at hl 0 rfl) ?_
          refine cd_gI (o := 9) (k := 1) (f := 289) hj cx hw hic9 rfl ⟨by decide, rfl, by decide, rfl⟩ rfl (show _ < 60 by omega) (List.mem_cons_of_mem _ cm_1191) dX11_run_59 ?_
          refine lv_if_ne (tgt := 73) cx.1 cx.2.1 dX11_run_62 (by decide) (fun c62 => ?_) (fun c62 => ?_)
          · have h := md_in c62 h
            exact J73 _ hj p4.2 b0 _ _ _ (by omega) (by omega) (by omega) (by omega) h hw (lv_sub hl [] rfl)
          · have h := md_ip c62 h
            refine lv_aload cx.1 cx.2.1 dX11_run_65 (lv_at hl 0 rfl) ?_
            refine cd_gI (o := 9) (k := 6) (f := 294) hj cx hw hic9 rfl ⟨by decide, rfl, by decide, rfl⟩ rfl (show _ < 60 by omega) (List.mem_cons_of_mem _ cm_1192) dX11_run_67 ?_
            refine lv_if_eq (tgt := 83) cx.1 cx.2.1 dX11_run_70 (by decide) (fun c70 => ?_) (fun c70 => ?_)
            · have h := md_ip c70 h
              refine lv_aload_n cx.1 cx.2.1 dX11_run_83 rfl (lv_at hl 1 rfl) ?_
              refine cd_gO (o2 := 1) (e2 := 0) (o := 11) (k := 7) (f := 359) hj cx hw hic11 rfl ⟨by decide, rfl, by decide, rfl⟩ rfl (by decide) ⟨rfl, rfl⟩ (List.mem_cons_of_mem _ cm_1107) dX11_run_84 ?_
              refine lv_aload cx.1 cx.2.1 dX11_run_87 (lv_at hl 0 rfl) ?_
              refine lv_iload_n cx.1 cx.2.1 dX11_run_89 rfl (lv_at hl 3 rfl) ?_
              refine lv_iload_n cx.1 cx.2.1 dX11_run_90 rfl (lv_at hl 4 rfl) ?_
              refine lv_iload cx.1 cx.2.1 dX11_run_91 (lv_at hl 5 rfl) ?_
              obtain ⟨p5, e_p5, h⟩ := md_ob h
              obtain ⟨hm6, hn6, h⟩ := cd_cks h
              have hM6 : p.2.1 ≤ p5.2.2.1 ∧ p.2.2 ≤ p5.2.2.2 := ⟨hm6, hn6⟩
              have hle5 := (kc_X1_prepare l D cA E sz ad _ hj oq sgq sgv hE n p4.2 b0 (p4.1) a2 a3 a4 (show _ < 60 by omega) p5 e_p5).1
              refine hp_callVv (As := [.ref (ad 9 p4.1), .int a2, .int a3, .int a4]) (rest := []) cx hw ((kc_X1_prepare l D cA E _ ad _ hj oq sgq sgv hE n p4.2 b0 (p4.1) a2 a3 a4 (show _ < 60 by omega) p5 e_p5).2) (cwV 4 cx.2.2.2.2.2.1 (cd_giV cm_1193 cm_1194 cm_1195 cm_130 cm_1196) rfl rfl rfl hdc_X1_prepare ⟨Nat.le_of_ble_eq_true rfl, Nat.le_of_ble_eq_true rfl⟩) (cd_atO hj (by decide) (by decide)) rfl rfl hl.1 rfl (Nat.le_of_ble_eq_true rfl) dX11_run_93 ⟨by (try dsimp only); omega, by (try dsimp only); omega⟩ (fun u H locs hp hw => ?_)
              obtain ⟨ca, hj, rfl⟩ := hp
              refine W.widen (k := b0.1 - p5.2.2.1) (n := b0.2 - p5.2.2.2) (by omega) (by omega) ?_
              refine lv_aload_n cx.1 cx.2.1 dX11_run_96 rfl (lv_at hl 1 rfl) ?_
              refine cd_gO (o2 := 1) (e2 := 0) (o := 11) (k := 7) (f := 359) hj cx hw hic11 rfl ⟨by decide, rfl, by decide, rfl⟩ rfl (by decide) ⟨rfl, rfl⟩ (List.mem_cons_of_mem _ cm_1107) dX11_run_97 ?_
              obtain ⟨p7, e_p7, h⟩ := md_ob h
              obtain ⟨hm8, hn8, h⟩ := cd_cks h
              have hM8 : p.2.1 ≤ p7.2.2.1 ∧ p.2.2 ≤ p7.2.2.2 := ⟨hm8, hn8⟩
              have hle7 := (kc_X1_goOn l D cA E sz ad _ hj oq sgq sgv hE n p5.2.1 (p5.2.2)  p7 e_p7).1
              refine hp_callVi (As := []) (rest := []) cx hw ((kc_X1_goOn l D cA E _ ad _ hj oq sgq sgv hE n p5.2.1 (p5.2.2)  p7 e_p7).2) (cwV 0 cx.2.2.2.2.2.1 (cd_giV cm_1197 cm_1198 cm_1199 cm_130 cm_1200) rfl rfl rfl hdc_X1_goOn ⟨Nat.le_of_ble_eq_true rfl, Nat.le_of_ble_eq_true rfl⟩) (cd_atO hj (by decide) (by decide)) rfl rfl hl.1 rfl (Nat.le_of_ble_eq_true rfl) dX11_run_100 ⟨by (try dsimp only); omega, by (try dsimp only); omega⟩ (fun r u H locs hp hw => ?_)
              obtain ⟨rfl, ca, hj, rfl⟩ := hp
              refine W.widen (k := b0.1 - p7.2.2.1) (n := b0.2 - p7.2.2.2) (by omega) (by omega) ?_
              exact nomatch Option.some.inj h
            · have h := md_in c70 h
              exact J73 _ hj p4.2 b0 _ _ _ (by omega) (by omega) (by omega) (by omega) h hw (lv_sub hl [] rfl)
        · have h := md_in c34 h
          exact J37 _ hj p3.2 b0 _ _ _ (by omega) (by omega) (by omega) (by omega) h hw (lv_sub hl [] rfl)
  · have h := md_ip c4 h
    obtain ⟨b9, e_b9, h⟩ := md_ob h
    have hu := cd_uses e_b9
    obtain rfl : (σ0, b9) = p := congrArg Prod.snd (Sum.inr.inj (Option.some.inj h))
    obtain ⟨sr, hsr⟩ := hX.2.2.2.1
    exact hp_throwQ (X := "java/lang/IllegalStateException") (text := "there is no program") (names := ["java/lang/RuntimeException", "java/lang/Exception"]) cx hw hno ⟨_, hj, rfl⟩ hX.1 (by decide +kernel) (by decide +kernel) (List.mem_cons_of_mem _ cm_1221) (List.mem_cons_of_mem _ cm_1222) hsr (fun w h => List.mem_cons_of_mem _ (hat_X11_210 w h)) (by decide +kernel) (by decide +kernel) hX.2.2.1 hl.1 dX11_run_7 dX11_run_10 dX11_run_11 dX11_run_13 dX11_run_16 (Nat.le_of_ble_eq_true rfl) (Nat.le_of_ble_eq_true rfl) (by (try dsimp only); omega) (by (try dsimp only); omega) (by (try dsimp only); omega) (by (try dsimp only); omega)
