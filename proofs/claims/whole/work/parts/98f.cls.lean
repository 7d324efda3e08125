set_option maxHeartbeats 4000000 in
set_option maxRecDepth 100000 in
theorem kc_X1_goThread (l : Launch) (D : va_G) (cA : Nat → ClassId) (E : hp_N) (sz : Nat) (ad : Nat → Nat → Nat) (ca0 : Nat → Nat) (hj : cd_inj ad ca0) (oq sgq sgv : Nat) (hE : cd_E E oq sgq sgv) (n : Nat) (σ0 : cd_S) (b0 : cd_B) (a1 : Nat) (hb_a1 : a1 < 8) (p : (Int32 × cd_S × cd_B)) (h : f_X1_goThread n σ0 b0 a1 = some p) : (p.2.2.1 ≤ b0.1 ∧ p.2.2.2 ≤ b0.2) ∧ Met l yX1_goThread (Cond.code yX1_goThread cX1_goThread 4 none :: v_CLS) ({ frames := 8, cells := b0.1 - p.2.2.1, slots := b0.2 - p.2.2.2, locals := 211 }) (hp_Pc D vwCl (hp_Tl cA) E sz (cd_pic cA ad ca0 σ0) [.ref (ad 1 0), .ref (ad 7 a1)]) (hp_Qv D vwCl (hp_Tl cA) sz (cd_pic cA ad ca0 σ0) (fun u => ∃ ca1, cd_inj ad ca1 ∧ u = cd_pic cA ad ca1 p.2.1)) (b0.1 - p.2.2.1) (b0.2 - p.2.2.2) (hp_A (cd_pic cA ad ca0 σ0) sz) := by
  obtain ⟨hm0, hn0, h⟩ := cd_cks h
  have hM0 : p.2.2.1 ≤ b0.1 ∧ p.2.2.2 ≤ b0.2 := ⟨hm0, hn0⟩
  refine ⟨hM0, ?_⟩
  refine hp_ofW (cc := cX1_goThread) (maxL := 4) (ret := none) (by decide) rfl (Nat.le_of_ble_eq_true rfl) ?_
  intro pp ee ss mm bb mt cd ls cx hsz hw hl
  have hl : lv_has ls 4 [(0, .ref (ad 1 0)), (1, .ref (ad 7 a1))] := hl
  refine W.widen (k := b0.1 - b0.1) (n := b0.2 - b0.2) (Nat.zero_le _) (Nat.zero_le _) ?_
  have J31 : ∀ (ca : Nat → Nat) (hj : cd_inj ad ca) (σ : cd_S) (b : cd_B) (l2 : Int32) (H : Heap) (locs : List Loc) (ls : Array Slot), b.1 ≤ b0.1 → b.2 ≤ b0.2 → p.2.2.1 ≤ b.1 → p.2.2.2 ≤ b.2 → f_X1_goThread_J31 n a1 σ b l2 = some p → hp_w D vwCl (hp_Tl cA) E (hp_A (cd_pic cA ad ca0 σ0) sz) ss H locs (cd_pic cA ad ca σ) → lv_has ls 4 [(0, .ref (ad 1 0)), (1, .ref (ad 7 a1)), (2, .int l2)] → W pp l ee ({ frames := 8, cells := b0.1 - p.2.2.1, slots := b0.2 - p.2.2.2, locals := 211 }) ss mm [.ref (ad 1 0), .ref (ad 7 a1)].toArray bb mt cd H locs (b0.1 - b.1) (b0.2 - b.2) (MQ bb (hp_Qv D vwCl (hp_Tl cA) sz (cd_pic cA ad ca0 σ0) (fun u => ∃ ca1, cd_inj ad ca1 ∧ u = cd_pic cA ad ca1 p.2.1)) [.ref (ad 1 0), .ref (ad 7 a1)].toArray ss (b0.1 - p.2.2.1) (b0.2 - p.2.2.2) (hp_A (cd_pic cA ad ca0 σ0) sz)) (F0 mm 31 ls []) := by
    intro ca hj σ b l2 H locs ls hb1 hb2 hf1 hf2 h hw hl
    refine lv_iconst (v := 0) cx.1 cx.2.1 dX1_goThread_31 (by decide) ?_
    refine lv_istore_n (lv' := [(3, .int 0), (0, .ref (ad 1 0)), (1, .ref (ad 7 a1)), (2, .int l2)]) cx.1 cx.2.1 dX1_goThread_32 rfl hl (by decide) rfl (fun ls hl => ?_)
    have L33 : ∀ (j : Nat) (ca : Nat → Nat) (hj : cd_inj ad ca) (σ : cd_S) (b : cd_B) (l2 : Int32) (l3 : Int32) (q : (cd_S × cd_B × Int32 × Int32)) (H : Heap) (locs : List Loc) (ls : Array Slot), b.1 ≤ b0.1 → b.2 ≤ b0.2 → p.2.2.1 ≤ b.1 → p.2.2.2 ≤ b.2 → p.2.2.1 ≤ q.2.1.1 → p.2.2.2 ≤ q.2.1.2 → f_X1_goThread_L33 n a1 j σ b l2 l3 = some q → hp_w D vwCl (hp_Tl cA) E (hp_A (cd_pic cA ad ca0 σ0) sz) ss H locs (cd_pic cA ad ca σ) → lv_has ls 4 [(0, .ref (ad 1 0)), (1, .ref (ad 7 a1)), (2, .int l2), (3, .int l3)] → (∀ (ca : Nat → Nat) (hj : cd_inj ad ca) (H : Heap) (locs : List Loc) (ls : Array Slot), q.2.1.1 ≤ b0.1 → q.2.1.2 ≤ b0.2 → hp_w D vwCl (hp_Tl cA) E (hp_A (cd_pic cA ad ca0 σ0) sz) ss H locs (cd_pic cA ad ca q.1) → lv_has ls 4 [] → W pp l ee ({ frames := 8, cells := b0.1 - p.2.2.1, slots := b0.2 - p.2.2.2, locals := 211 }) ss mm [.ref (ad 1 0), .ref (ad 7 a1)].toArray bb mt cd H locs (b0.1 - q.2.1.1) (b0.2 - q.2.1.2) (MQ bb (hp_Qv D vwCl (hp_Tl cA) sz (cd_pic cA ad ca0 σ0) (fun u => ∃ ca1, cd_inj ad ca1 ∧ u = cd_pic cA ad ca1 p.2.1)) [.ref (ad 1 0), .ref (ad 7 a1)].toArray ss (b0.1 - p.2.2.1) (b0.2 - p.2.2.2) (hp_A (cd_pic cA ad ca0 σ0) sz)) (F0 mm 84 ls [])) → W pp l ee ({ frames := 8, cells := b0.1 - p.2.2.1, slots := b0.2 - p.2.2.2, locals := 211 }) ss mm [.ref (ad 1 0), .ref (ad 7 a1)].toArray bb mt cd H locs (b0.1 - b.1) (b0.2 - b.2) (MQ bb (hp_Qv D vwCl (hp_Tl cA) sz (cd_pic cA ad ca0 σ0) (fun u => ∃ ca1, cd_inj ad ca1 ∧ u = cd_pic cA ad ca1 p.2.1)) [.ref (ad 1 0), .ref (ad 7 a1)].toArray ss (b0.1 - p.2.2.1) (b0.2 - p.2.2.2) (hp_A (cd_pic cA ad ca0 σ0) sz)) (F0 mm 33 ls []) := by
      intro j
      induction j with
      | zero => intro ca hj σ b l2 l3 q H locs ls hb1 hb2 hf1 hf2 hq1 hq2 h; exact nomatch h
      | succ j ih =>
        intro ca hj σ b l2 l3 q H locs ls hb1 hb2 hf1 hf2 hq1 hq2 h hw hl K
        unfold f_X1_goThread_L33 at h
        have J78 : ∀ (ca : Nat → Nat) (hj : cd_inj ad ca) (σ : cd_S) (b : cd_B) (l2 : Int32) (l3 : Int32) (H : Heap) (locs : List Loc) (ls : Array Slot), b.1 ≤ b0.1 → b.2 ≤ b0.2 → p.2.2.1 ≤ b.1 → p.2.2.2 ≤ b.2 → f_X1_goThread_J78 n a1 (f_X1_goThread_L33 n a1 j) σ b l2 l3 = some q → hp_w D vwCl (hp_Tl cA) E (hp_A (cd_pic cA ad ca0 σ0) sz) ss H locs (cd_pic cA ad ca σ) → lv_has ls 4 [(0, .ref (ad 1 0)), (1, .ref (ad 7 a1)), (2, .int l2), (3, .int l3)] → W pp l ee ({ frames := 8, cells := b0.1 - p.2.2.1, slots := b0.2 - p.2.2.2, locals := 211 }) ss mm [.ref (ad 1 0), .ref (ad 7 a1)].toArray bb mt cd H locs (b0.1 - b.1) (b0.2 - b.2) (MQ bb (hp_Qv D vwCl (hp_Tl cA) sz (cd_pic cA ad ca0 σ0) (fun u => ∃ ca1, cd_inj ad ca1 ∧ u = cd_pic cA ad ca1 p.2.1)) [.ref (ad 1 0), .ref (ad 7 a1)].toArray ss (b0.1 - p.2.2.1) (b0.2 - p.2.2.2) (hp_A (cd_pic cA ad ca0 σ0) sz)) (F0 mm 78 ls []) := by
          intro ca hj σ b l2 l3 H locs ls hb1 hb2 hf1 hf2 h hw hl
          refine lv_iinc (v := (l3 + 1)) (lv' := [(3, .int (l3 + 1)), (0, .ref (ad 1 0)), (1, .ref (ad 7 a1)), (2, .int l2)]) cx.1 cx.2.1 dX1_goThread_78 hl (k := 3) rfl rfl (by decide) rfl (fun ls hl => ?_)
          refine lv_goto (tgt := 33) cx.1 cx.2.1 dX1_goThread_81 (by decide) ?_
          exact ih _ hj σ b l2 ((l3 + 1)) q _ _ _ (by omega) (by omega) (by omega) (by omega) hq1 hq2 h hw (lv_sub hl [1, 2, 3, 0] rfl) K
        refine lv_iload_n cx.1 cx.2.1 dX1_goThread_33 rfl (lv_at hl 3 rfl) ?_
        refine lv_ldc cx.1 cx.2.1 cx.2.2.2.2.1 (cx.2.2.2.2.2.1 _ (List.mem_cons_of_mem _ cm_498)) dX1_goThread_34 ?_
        refine lv_icmp_ge (tgt := 84) cx.1 cx.2.1 dX1_goThread_36 (by decide) (fun c36 => ?_) (fun c36 => ?_)
        · have h := md_ip c36 h
          obtain rfl := Option.some.inj h
          exact K _ hj _ _ _ (by (try dsimp only); omega) (by (try dsimp only); omega) hw (lv_sub hl [] rfl)
        · have h := md_in c36 h
          refine lv_iload_n cx.1 cx.2.1 dX1_goThread_39 rfl (lv_at hl 2 rfl) ?_
          refine lv_iconst (v := 1) cx.1 cx.2.1 dX1_goThread_40 (by decide) ?_
          refine lv_icmp_eq (tgt := 84) cx.1 cx.2.1 dX1_goThread_41 (by decide) (fun c41 => ?_) (fun c41 => ?_)
          · have h := md_ip c41 h
            obtain rfl := Option.some.inj h
            exact K _ hj _ _ _ (by (try dsimp only); omega) (by (try dsimp only); omega) hw (lv_sub hl [] rfl)
          · have h := md_in c41 h
            refine lv_iload_n cx.1 cx.2.1 dX1_goThread_44 rfl (lv_at hl 2 rfl) ?_
            refine lv_iconst (v := 2) cx.1 cx.2.1 dX1_goThread_45 (by decide) ?_
            refine lv_icmp_ne (tgt := 58) cx.1 cx.2.1 dX1_goThread_46 (by decide) (fun c46 => ?_) (fun c46 => ?_)
            · have h := md_in c46 h
              refine lv_iload_n cx.1 cx.2.1 dX1_goThread_58 rfl (lv_at hl 2 rfl) ?_
              refine lv_iconst (v := 3) cx.1 cx.2.1 dX1_goThread_59 (by decide) ?_
              refine lv_icmp_ne (tgt := 72) cx.1 cx.2.1 dX1_goThread_60 (by decide) (fun c60 => ?_) (fun c60 => ?_)
              · have h := md_in c60 h
                refine lv_aload_n cx.1 cx.2.1 dX1_goThread_72 rfl (lv_at hl 0 rfl) ?_
                refine lv_aload_n cx.1 cx.2.1 dX1_goThread_73 rfl (lv_at hl 1 rfl) ?_
                obtain ⟨p1, e_p1, h⟩ := md_ob h
                obtain ⟨hm2, hn2, h⟩ := cd_cks h
                have hM2 : p.2.2.1 ≤ p1.2.2.1 ∧ p.2.2.2 ≤ p1.2.2.2 := ⟨Nat.le_trans hq1 hm2, Nat.le_trans hq2 hn2⟩
                have hle1 := (kc_X1_step l D cA E sz ad _ hj oq sgq sgv hE n σ b a1 (show _ < 8 by omega) p1 e_p1).1
                refine hp_callVi (As := [.ref (ad 7 a1)]) (rest := []) cx hw ((kc_X1_step l D cA E _ ad _ hj oq sgq sgv hE n σ b a1 (show _ < 8 by omega) p1 e_p1).2) (cwV 1 cx.2.2.2.2.2.1 (cd_giV cm_499 cm_500 cm_501 cm_130 cm_502) rfl rfl rfl hdc_X1_step ⟨Nat.le_of_ble_eq_true rfl, Nat.le_of_ble_eq_true rfl⟩) (cd_atO hj (by decide) (by decide)) rfl rfl hl.1 rfl (Nat.le_of_ble_eq_true rfl) dX1_goThread_74 ⟨by (try dsimp only); omega, by (try dsimp only); omega⟩ (fun r u H locs hp hw => ?_)
                obtain ⟨rfl, ca, hj, rfl⟩ := hp
                refine W.widen (k := b0.1 - p1.2.2.1) (n := b0.2 - p1.2.2.2) (by omega) (by omega) ?_
                refine lv_istore_n (lv' := [(2, .int p1.1), (0, .ref (ad 1 0)), (1, .ref (ad 7 a1)), (3, .int l3)]) cx.1 cx.2.1 dX1_goThread_77 rfl hl (by decide) rfl (fun ls hl => ?_)
                exact J78 _ hj p1.2.1 (p1.2.2) (p1.1) l3 _ _ _ (by omega) (by omega) (by omega) (by omega) h hw (lv_sub hl [1, 2, 0, 3] rfl)
              · have h := md_ip c60 h
                refine lv_aload_n cx.1 cx.2.1 dX1_goThread_63 rfl (lv_at hl 0 rfl) ?_
                refine lv_aload_n cx.1 cx.2.1 dX1_goThread_64 rfl (lv_at hl 1 rfl) ?_
                obtain ⟨p3, e_p3, h⟩ := md_ob h
                obtain ⟨hm4, hn4, h⟩ := cd_cks h
                have hM4 : p.2.2.1 ≤ p3.2.2.1 ∧ p.2.2.2 ≤ p3.2.2.2 := ⟨Nat.le_trans hq1 hm4, Nat.le_trans hq2 hn4⟩
                have hle3 := (kc_X1_begin l D cA E sz ad _ hj oq sgq sgv hE n σ b a1 (show _ < 8 by omega) p3 e_p3).1
                refine hp_callVi (As := [.ref (ad 7 a1)]) (rest := []) cx hw ((kc_X1_begin l D cA E _ ad _ hj oq sgq sgv hE n σ b a1 (show _ < 8 by omega) p3 e_p3).2) (cwV 1 cx.2.2.2.2.2.1 (cd_giV cm_215 cm_216 cm_217 cm_130 cm_218) rfl rfl rfl hdc_X1_begin ⟨Nat.le_of_ble_eq_true rfl, Nat.le_of_ble_eq_true rfl⟩) (cd_atO hj (by decide) (by decide)) rfl rfl hl.1 rfl (Nat.le_of_ble_eq_true rfl) dX1_goThread_65 ⟨by (try dsimp only); omega, by (try dsimp only); omega⟩ (fun r u H locs hp hw => ?_)
                obtain ⟨rfl, ca, hj, rfl⟩ := hp
                refine W.widen (k := b0.1 - p3.2.2.1) (n := b0.2 - p3.2.2.2) (by omega) (by omega) ?_
                refine lv_istore_n (lv' := [(2, .int p3.1), (0, .ref (ad 1 0)), (1, .ref (ad 7 a1)), (3, .int l3)]) cx.1 cx.2.1 dX1_goThread_68 rfl hl (by decide) rfl (fun ls hl => ?_)
                refine lv_goto (tgt := 78) cx.1 cx.2.1 dX1_goThread_69 (by decide) ?_
                exact J78 _ hj p3.2.1 (p3.2.2) (p3.1) l3 _ _ _ (by omega) (by omega) (by omega) (by omega) h hw (lv_sub hl [1, 2, 0, 3] rfl)
            · have h := md_ip c46 h
              refine lv_aload_n cx.1 cx.2.1 dX1_goThread_49 rfl (lv_at hl 0 rfl) ?_
              refine lv_aload_n cx.1 cx.2.1 dX1_goThread_50 rfl (lv_at hl 1 rfl) ?_
              obtain ⟨p5, e_p5, h⟩ := md_ob h
              obtain ⟨hm6, hn6, h⟩ := cd_cks h
              have hM6 : p.2.2.1 ≤ p5.2.2.1 ∧ p.2.2.2 ≤ p5.2.2.2 := ⟨Nat.le_trans hq1 hm6, Nat.le_trans hq2 hn6⟩
              have hle5 := (kc_X1_raise l D cA E sz ad _ hj oq sgq sgv hE n σ b a1 (show _ < 8 by omega) p5 e_p5).1
              refine hp_callVi (As := [.ref (ad 7 a1)]) (rest := []) cx hw ((kc_X1_raise l D cA E _ ad _ hj oq sgq sgv hE n σ b a1 (show _ < 8 by omega) p5 e_p5).2) (cwV 1 cx.2.2.2.2.2.1 (cd_giV cm_503 cm_504 cm_505 cm_130 cm_506) rfl rfl rfl hdc_X1_raise ⟨Nat.le_of_ble_eq_true rfl, Nat.le_of_ble_eq_true rfl⟩) (cd_atO hj (by decide) (by decide)) rfl rfl hl.1 rfl (Nat.le_of_ble_eq_true rfl) dX1_goThread_51 ⟨by (try dsimp only); omega, by (try dsimp only); omega⟩ (fun r u H locs hp hw => ?_)
              obtain ⟨rfl, ca, hj, rfl⟩ := hp
              refine W.widen (k := b0.1 - p5.2.2.1) (n := b0.2 - p5.2.2.2) (by omega) (by omega) ?_
              refine lv_istore_n (lv' := [(2, .int p5.1), (0, .ref (ad 1 0)), (1, .ref (ad 7 a1)), (3, .int l3)]) cx.1 cx.2.1 dX1_goThread_54 rfl hl (by decide) rfl (fun ls hl => ?_)
              refine lv_goto (tgt := 78) cx.1 cx.2.1 dX1_goThread_55 (by decide) ?_
              exact J78 _ hj p5.2.1 (p5.2.2) (p5.1) l3 _ _ _ (by omega) (by omega) (by omega) (by omega) h hw (lv_sub hl [1, 2, 0, 3] rfl)
    obtain ⟨q7, e_q7, h⟩ := md_ob h
    obtain ⟨hm8, hn8, h⟩ := cd_cks h
    have hM8 : p.2.2.1 ≤ q7.2.1.1 ∧ p.2.2.2 ≤ q7.2.1.2 := ⟨hm8, hn8⟩
    refine L33 n _ hj σ b l2 0 q7 _ _ _ (by omega) (by omega) (by omega) (by omega) hM8.1 hM8.2 e_q7 hw (lv_sub hl [1, 2, 3, 0] rfl) (fun ca hj H locs ls hb1 hb2 hw hl => ?_)
    exact hp_vret cx hw ((cd_retb hj h).2) dX1_goThread_84 (cd_le1 h) (cd_le2 h)
  refine lv_iconst (v := 0) cx.1 cx.2.1 dX1_goThread_0 (by decide) ?_
  refine lv_istore_n (lv' := [(2, .int 0), (0, .ref (ad 1 0)), (1, .ref (ad 7 a1))]) cx.1 cx.2.1 dX1_goThread_1 rfl hl (by decide) rfl (fun ls hl => ?_)
  refine lv_aload_n cx.1 cx.2.1 dX1_goThread_2 rfl (lv_at hl 2 rfl) ?_
  refine cd_gI (o := 7) (k := 11) (f := 235) hj cx hw hic7 rfl ⟨by decide, rfl, by decide, rfl⟩ rfl (show _ < 8 by omega) (List.mem_cons_of_mem _ cm_228) dX1_goThread_3 ?_
  refine lv_iconst (v := (-1)) cx.1 cx.2.1 dX1_goThread_6 (by decide) ?_
  refine lv_icmp_eq (tgt := 31) cx.1 cx.2.1 dX1_goThread_7 (by decide) (fun c7 => ?_) (fun c7 => ?_)
  · have h := md_ip c7 h
    exact J31 _ hj σ0 b0 0 _ _ _ (by omega) (by omega) (by omega) (by omega) h hw (lv_sub hl [1, 2, 0] rfl)
  · have h := md_in c7 h
    refine lv_aload_n cx.1 cx.2.1 dX1_goThread_10 rfl (lv_at hl 1 rfl) ?_
    refine lv_aload_n cx.1 cx.2.1 dX1_goThread_11 rfl (lv_at hl 2 rfl) ?_
    refine cd_gI (o := 7) (k := 11) (f := 235) hj cx hw hic7 rfl ⟨by decide, rfl, by decide, rfl⟩ rfl (show _ < 8 by omega) (List.mem_cons_of_mem _ cm_228) dX1_goThread_12 ?_
    obtain ⟨p9, e_p9, h⟩ := md_ob h
    refine hp_callVr (As := [.int (cI σ0 235 a1)]) (rest := []) cx hw (kc_X1_strandAt l D cA E _ ad _ hj oq sgq sgv hE n σ0 ((cI σ0 235 a1)) p9 e_p9) (cwV 1 cx.2.2.2.2.2.1 (cd_giV cm_219 cm_220 cm_221 cm_130 cm_222) rfl rfl rfl hdc_X1_strandAt ⟨Nat.le_of_ble_eq_true rfl, Nat.le_of_ble_eq_true rfl⟩) (cd_atO hj (by decide) (by decide)) rfl rfl hl.1 rfl (Nat.le_of_ble_eq_true rfl) dX1_goThread_15 ⟨by (try dsimp only); omega, by (try dsimp only); omega⟩ (fun r u H locs hp hw => ?_)
    obtain ⟨⟨hb_p9, rfl⟩, ca, hj, rfl⟩ := hp
    refine lv_astore_n (lv' := [(3, .ref (ad 7 p9.1)), (2, .int 0), (0, .ref (ad 1 0)), (1, .ref (ad 7 a1))]) cx.1 cx.2.1 dX1_goThread_18 rfl hl (by decide) rfl (fun ls hl => ?_)
    refine lv_aload_n cx.1 cx.2.1 dX1_goThread_19 rfl (lv_at hl 3 rfl) ?_
    refine lv_iconst (v := (-1)) cx.1 cx.2.1 dX1_goThread_20 (by decide) ?_
    obtain ⟨σ10, e_σ10, h⟩ := md_ob h
    refine cd_pI (o := 7) (k := 11) (f := 235) hj cx hw hic7 rfl ⟨by decide, rfl, by decide, rfl⟩ tyX7_ok nmX7 rfl (show _ < 8 by omega) rfl (List.mem_cons_of_mem _ cm_228) rfl e_σ10 dX1_goThread_21 (fun H locs hw => ?_)
    refine lv_aload_n cx.1 cx.2.1 dX1_goThread_24 rfl (lv_at hl 2 rfl) ?_
    refine lv_aload_n cx.1 cx.2.1 dX1_goThread_25 rfl (lv_at hl 3 rfl) ?_
    refine lv_aload_n cx.1 cx.2.1 dX1_goThread_26 rfl (lv_at hl 0 rfl) ?_
    obtain ⟨p11, e_p11, h⟩ := md_ob h
    obtain ⟨hm12, hn12, h⟩ := cd_cks h
    have hM12 : p.2.2.1 ≤ p11.2.2.1 ∧ p.2.2.2 ≤ p11.2.2.2 := ⟨hm12, hn12⟩
    have hle11 := (kc_X1_takeOutcome l D cA E sz ad _ hj oq sgq sgv hE n σ10 b0 a1 (p9.1) (show _ < 8 by omega) (show _ < 8 by omega) p11 e_p11).1
    refine hp_callVi (As := [.ref (ad 7 a1), .ref (ad 7 p9.1)]) (rest := []) cx hw ((kc_X1_takeOutcome l D cA E _ ad _ hj oq sgq sgv hE n σ10 b0 a1 (p9.1) (show _ < 8 by omega) (show _ < 8 by omega) p11 e_p11).2) (cwV 2 cx.2.2.2.2.2.1 (cd_giV cm_371 cm_372 cm_373 cm_130 cm_374) rfl rfl rfl hdc_X1_takeOutcome ⟨Nat.le_of_ble_eq_true rfl, Nat.le_of_ble_eq_true rfl⟩) (cd_atO hj (by decide) (by decide)) rfl rfl hl.1 rfl (Nat.le_of_ble_eq_true rfl) dX1_goThread_27 ⟨by (try dsimp only); omega, by (try dsimp only); omega⟩ (fun r u H locs hp hw => ?_)
    obtain ⟨rfl, ca, hj, rfl⟩ := hp
    refine W.widen (k := b0.1 - p11.2.2.1) (n := b0.2 - p11.2.2.2) (by omega) (by omega) ?_
    refine lv_istore_n (lv' := [(2, .int p11.1), (3, .ref (ad 7 p9.1)), (0, .ref (ad 1 0)), (1, .ref (ad 7 a1))]) cx.1 cx.2.1 dX1_goThread_30 rfl hl (by decide) rfl (fun ls hl => ?_)
    exact J31 _ hj p11.2.1 (p11.2.2) (p11.1) _ _ _ (by omega) (by omega) (by omega) (by omega) h hw (lv_sub hl [2, 3, 0] rfl)
set_option maxHeartbeats 4000000 in
set_option maxRecDepth 100000 in
theorem kc_X1_goOn (l : Launch) (D : va_G) (cA : Nat → ClassId) (E : hp_N) (sz : Nat) (ad : Nat → Nat → Nat) (ca0 : Nat → Nat) (hj : cd_inj ad ca0) (oq sgq sgv : Nat) (hE : cd_E E oq sgq sgv) (n : Nat) (σ0 : cd_S) (b0 : cd_B) (p : (Int32 × cd_S × cd_B)) (h : f_X1_goOn n σ0 b0 = some p) : (p.2.2.1 ≤ b0.1 ∧ p.2.2.2 ≤ b0.2) ∧ Met l yX1_goOn (Cond.code yX1_goOn cX1_goOn 3 (some .int) :: v_CLS) ({ frames := 9, cells := b0.1 - p.2.2.1, slots := b0.2 - p.2.2.2, locals := 234 }) (hp_Pc D vwCl (hp_Tl cA) E sz (cd_pic cA ad ca0 σ0) [.ref (ad 1 0)]) (hp_Qi D vwCl (hp_Tl cA) sz (cd_pic cA ad ca0 σ0) (fun r u => r = p.1 ∧ ∃ ca1, cd_inj ad ca1 ∧ u = cd_pic cA ad ca1 p.2.1)) (b0.1 - p.2.2.1) (b0.2 - p.2.2.2) (hp_A (cd_pic cA ad ca0 σ0) sz) := by
  obtain ⟨hm0, hn0, h⟩ := cd_cks h
  have hM0 : p.2.2.1 ≤ b0.1 ∧ p.2.2.2 ≤ b0.2 := ⟨hm0, hn0⟩
  refine ⟨hM0, ?_⟩
  refine hp_ofW (cc := cX1_goOn) (maxL := 3) (ret := (some .int)) (by decide) rfl (Nat.le_of_ble_eq_true rfl) ?_
  intro pp ee ss mm bb mt cd ls cx hsz hw hl
  have hl : lv_has ls 3 [(0, .ref (ad 1 0))] := hl
  refine W.widen (k := b0.1 - b0.1) (n := b0.2 - b0.2) (Nat.zero_le _) (Nat.zero_le _) ?_
  have J71 : ∀ (ca : Nat → Nat) (hj : cd_inj ad ca) (σ : cd_S) (b : cd_B) (H : Heap) (locs : List Loc) (ls : Array Slot), b.1 ≤ b0.1 → b.2 ≤ b0.2 → p.2.2.1 ≤ b.1 → p.2.2.2 ≤ b.2 → f_X1_goOn_J71 n σ b = some p → hp_w D vwCl (hp_Tl cA) E (hp_A (cd_pic cA ad ca0 σ0) sz) ss H locs (cd_pic cA ad ca σ) → lv_has ls 3 [(0, .ref (ad 1 0))] → W pp l ee ({ frames := 9, cells := b0.1 - p.2.2.1, slots := b0.2 - p.2.2.2, locals := 234 }) ss mm [.ref (ad 1 0)].toArray bb mt cd H locs (b0.1 - b.1) (b0.2 - b.2) (MQ bb (hp_Qi D vwCl (hp_Tl cA) sz (cd_pic cA ad ca0 σ0) (fun r u => r = p.1 ∧ ∃ ca1, cd_inj ad ca1 ∧ u = cd_pic cA ad ca1 p.2.1)) [.ref (ad 1 0)].toArray ss (b0.1 - p.2.2.1) (b0.2 - p.2.2.2) (hp_A (cd_pic cA ad ca0 σ0) sz)) (F0 mm 71 ls []) := by
    intro ca hj σ b H locs ls hb1 hb2 hf1 hf2 h hw hl
    refine lv_aload_n cx.1 cx.2.1 dX1_goOn_71 rfl (lv_at hl 0 rfl) ?_
    refine cd_gI (o := 1) (k := 12) (f := 44) hj cx hw hic1 rfl ⟨by decide, rfl, by decide, rfl⟩ rfl (by decide) (List.mem_cons_of_mem _ cm_160) dX1_goOn_72 ?_
    exact hp_iret cx hw (cd_retb hj h) dX1_goOn_75 (cd_le1 h) (cd_le2 h)
  have J68 : ∀ (ca : Nat → Nat) (hj : cd_inj ad ca) (σ : cd_S) (b : cd_B) (t0 : Int32) (H : Heap) (locs : List Loc) (ls : Array Slot), b.1 ≤ b0.1 → b.2 ≤ b0.2 → p.2.2.1 ≤ b.1 → p.2.2.2 ≤ b.2 → f_X1_goOn_J68 n σ b t0 = some p → hp_w D vwCl (hp_Tl cA) E (hp_A (cd_pic cA ad ca0 σ0) sz) ss H locs (cd_pic cA ad ca σ) → lv_has ls 3 [(0, .ref (ad 1 0))] → W pp l ee ({ frames := 9, cells := b0.1 - p.2.2.1, slots := b0.2 - p.2.2.2, locals := 234 }) ss mm [.ref (ad 1 0)].toArray bb mt cd H locs (b0.1 - b.1) (b0.2 - b.2) (MQ bb (hp_Qi D vwCl (hp_Tl cA) sz (cd_pic cA ad ca0 σ0) (fun r u => r = p.1 ∧ ∃ ca1, cd_inj ad ca1 ∧ u = cd_pic cA ad ca1 p.2.1)) [.ref (ad 1 0)].toArray ss (b0.1 - p.2.2.1) (b0.2 - p.2.2.2) (hp_A (cd_pic cA ad ca0 σ0) sz)) (F0 mm 68 ls [.int t0, .ref (ad 1 0)]) := by
    intro ca hj σ b t0 H locs ls hb1 hb2 hf1 hf2 h hw hl
    obtain ⟨σ1, e_σ1, h⟩ := md_ob h
    refine cd_pI (o := 1) (k := 12) (f := 44) hj cx hw hic1 rfl ⟨by decide, rfl, by decide, rfl⟩ tyX1_ok nmX1 rfl (by decide) rfl (List.mem_cons_of_mem _ cm_160) rfl e_σ1 dX1_goOn_68 (fun H locs hw => ?_)
    exact J71 _ hj σ1 b _ _ _ (by omega) (by omega) (by omega) (by omega) h hw (lv_sub hl [0] rfl)
  refine lv_iconst (v := 0) cx.1 cx.2.1 dX1_goOn_0 (by decide) ?_
  refine lv_istore_n (lv' := [(1, .int 0), (0, .ref (ad 1 0))]) cx.1 cx.2.1 dX1_goOn_1 rfl hl (by decide) rfl (fun ls hl => ?_)
  refine lv_iconst (v := 0) cx.1 cx.2.1 dX1_goOn_2 (by decide) ?_
  refine lv_istore_n (lv' := [(2, .int 0), (1, .int 0), (0, .ref (ad 1 0))]) cx.1 cx.2.1 dX1_goOn_3 rfl hl (by decide) rfl (fun ls hl => ?_)
  have L4 : ∀ (j : Nat) (ca : Nat → Nat) (hj : cd_inj ad ca) (σ : cd_S) (b : cd_B) (l1 : Int32) (l2 : Int32) (q : (cd_S × cd_B × Int32 × Int32)) (H : Heap) (locs : List Loc) (ls : Array Slot), b.1 ≤ b0.1 → b.2 ≤ b0.2 → p.2.2.1 ≤ b.1 → p.2.2.2 ≤ b.2 → p.2.2.1 ≤ q.2.1.1 → p.2.2.2 ≤ q.2.1.2 → f_X1_goOn_L4 n j σ b l1 l2 = some q → hp_w D vwCl (hp_Tl cA) E (hp_A (cd_pic cA ad ca0 σ0) sz) ss H locs (cd_pic cA ad ca σ) → lv_has ls 3 [(0, .ref (ad 1 0)), (1, .int l1), (2, .int l2)] → (∀ (ca : Nat → Nat) (hj : cd_inj ad ca) (H : Heap) (locs : List Loc) (ls : Array Slot), q.2.1.1 ≤ b0.1 → q.2.1.2 ≤ b0.2 → hp_w D vwCl (hp_Tl cA) E (hp_A (cd_pic cA ad ca0 σ0) sz) ss H locs (cd_pic cA ad ca q.1) → lv_has ls 3 [(0, .ref (ad 1 0))] → W pp l ee ({ frames := 9, cells := b0.1 - p.2.2.1, slots := b0.2 - p.2.2.2, locals := 234 }) ss mm [.ref (ad 1 0)].toArray bb mt cd H locs (b0.1 - q.2.1.1) (b0.2 - q.2.1.2) (MQ bb (hp_Qi D vwCl (hp_Tl cA) sz (cd_pic cA ad ca0 σ0) (fun r u => r = p.1 ∧ ∃ ca1, cd_inj ad ca1 ∧ u = cd_pic cA ad ca1 p.2.1)) [.ref (ad 1 0)].toArray ss (b0.1 - p.2.2.1) (b0.2 - p.2.2.2) (hp_A (cd_pic cA ad ca0 σ0) sz)) (F0 mm 47 ls [])) → W pp l ee ({ frames := 9, cells := b0.1 - p.2.2.1, slots := b0.2 - p.2.2.2, locals := 234 }) ss mm [.ref (ad 1 0)].toArray bb mt cd H locs (b0.1 - b.1) (b0.2 - b.2) (MQ bb (hp_Qi D vwCl (hp_Tl cA) sz (cd_pic cA ad ca0 σ0) (fun r u => r = p.1 ∧ ∃ ca1, cd_inj ad ca1 ∧ u = cd_pic cA ad ca1 p.2.1)) [.ref (ad 1 0)].toArray ss (b0.1 - p.2.2.1) (b0.2 - p.2.2.2) (hp_A (cd_pic cA ad ca0 σ0) sz)) (F0 mm 4 ls []) := by
    intro j
    induction j with
    | zero => intro ca hj σ b l1 l2 q H locs ls hb1 hb2 hf1 hf2 hq1 hq2 h; exact nomatch h
    | succ j ih =>
      intro ca hj σ b l1 l2 q H locs ls hb1 hb2 hf1 hf2 hq1 hq2 h hw hl K
      unfold f_X1_goOn_L4 at h
      have J40 : ∀ (ca : Nat → Nat) (hj : cd_inj ad ca) (σ : cd_S) (b : cd_B) (l2 : Int32) (t0 : Int32) (H : Heap) (locs : List Loc) (ls : Array Slot), b.1 ≤ b0.1 → b.2 ≤ b0.2 → p.2.2.1 ≤ b.1 → p.2.2.2 ≤ b.2 → f_X1_goOn_J40 n (f_X1_goOn_L4 n j) σ b l2 t0 = some q → hp_w D vwCl (hp_Tl cA) E (hp_A (cd_pic cA ad ca0 σ0) sz) ss H locs (cd_pic cA ad ca σ) → lv_has ls 3 [(0, .ref (ad 1 0)), (2, .int l2)] → W pp l ee ({ frames := 9, cells := b0.1 - p.2.2.1, slots := b0.2 - p.2.2.2, locals := 234 }) ss mm [.ref (ad 1 0)].toArray bb mt cd H locs (b0.1 - b.1) (b0.2 - b.2) (MQ bb (hp_Qi D vwCl (hp_Tl cA) sz (cd_pic cA ad ca0 σ0) (fun r u => r = p.1 ∧ ∃ ca1, cd_inj ad ca1 ∧ u = cd_pic cA ad ca1 p.2.1)) [.ref (ad 1 0)].toArray ss (b0.1 - p.2.2.1) (b0.2 - p.2.2.2) (hp_A (cd_pic cA ad ca0 σ0) sz)) (F0 mm 40 ls [.int t0]) := by
        intro ca hj σ b l2 t0 H locs ls hb1 hb2 hf1 hf2 h hw hl
        refine lv_istore_n (lv' := [(1, .int t0), (0, .ref (ad 1 0)), (2, .int l2)]) cx.1 cx.2.1 dX1_goOn_40 rfl hl (by decide) rfl (fun ls hl => ?_)
        refine lv_iinc (v := (l2 + 1)) (lv' := [(2, .int (l2 + 1)), (1, .int t0), (0, .ref (ad 1 0))]) cx.1 cx.2.1 dX1_goOn_41 hl (k := 2) rfl rfl (by decide) rfl (fun ls hl => ?_)
        refine lv_goto (tgt := 4) cx.1 cx.2.1 dX1_goOn_44 (by decide) ?_
        exact ih _ hj σ b t0 ((l2 + 1)) q _ _ _ (by omega) (by omega) (by omega) (by omega) hq1 hq2 h hw (lv_sub hl [2, 1, 0] rfl) K
      refine lv_iload_n cx.1 cx.2.1 dX1_goOn_4 rfl (lv_at hl 2 rfl) ?_
      refine lv_ldc cx.1 cx.2.1 cx.2.2.2.2.1 (cx.2.2.2.2.2.1 _ (List.mem_cons_of_mem _ cm_498)) dX1_goOn_5 ?_
      refine lv_icmp_ge (tgt := 47) cx.1 cx.2.1 dX1_goOn_7 (by decide) (fun c7 => ?_) (fun c7 => ?_)
      · have h := md_ip c7 h
        obtain rfl := Option.some.inj h
        exact K _ hj _ _ _ (by (try dsimp only); omega) (by (try dsimp only); omega) hw (lv_sub hl [0] rfl)
      · have h := md_in c7 h
        refine lv_iload_n cx.1 cx.2.1 dX1_goOn_10 rfl (lv_at hl 1 rfl) ?_
        refine lv_iconst (v := (-1)) cx.1 cx.2.1 dX1_goOn_11 (by decide) ?_
        refine lv_icmp_eq (tgt := 47) cx.1 cx.2.1 dX1_goOn_12 (by decide) (fun c12 => ?_) (fun c12 => ?_)
        · have h := md_ip c12 h
          obtain rfl := Option.some.inj h
          exact K _ hj _ _ _ (by (try dsimp only); omega) (by (try dsimp only); omega) hw (lv_sub hl [0] rfl)
        · have h := md_in c12 h
          refine lv_aload_n cx.1 cx.2.1 dX1_goOn_15 rfl (lv_at hl 0 rfl) ?_
          refine lv_aload_n cx.1 cx.2.1 dX1_goOn_16 rfl (lv_at hl 0 rfl) ?_
          refine lv_iload_n cx.1 cx.2.1 dX1_goOn_17 rfl (lv_at hl 1 rfl) ?_
          obtain ⟨p2, e_p2, h⟩ := md_ob h
          refine hp_callVr (As := [.int l1]) (rest := [.ref (ad 1 0)]) cx hw (kc_X1_strandAt l D cA E _ ad _ hj oq sgq sgv hE n σ l1 p2 e_p2) (cwV 1 cx.2.2.2.2.2.1 (cd_giV cm_219 cm_220 cm_221 cm_130 cm_222) rfl rfl rfl hdc_X1_strandAt ⟨Nat.le_of_ble_eq_true rfl, Nat.le_of_ble_eq_true rfl⟩) (cd_atO hj (by decide) (by decide)) rfl rfl hl.1 rfl (Nat.le_of_ble_eq_true rfl) dX1_goOn_18 ⟨by (try dsimp only); omega, by (try dsimp only); omega⟩ (fun r u H locs hp hw => ?_)
          obtain ⟨⟨hb_p2, rfl⟩, ca, hj, rfl⟩ := hp
          obtain ⟨p3, e_p3, h⟩ := md_ob h
          obtain ⟨hm4, hn4, h⟩ := cd_cks h
          have hM4 : p.2.2.1 ≤ p3.2.2.1 ∧ p.2.2.2 ≤ p3.2.2.2 := ⟨Nat.le_trans hq1 hm4, Nat.le_trans hq2 hn4⟩
          have hle3 := (kc_X1_goThread l D cA E sz ad _ hj oq sgq sgv hE n p2.2 b (p2.1) (show _ < 8 by omega) p3 e_p3).1
          refine hp_callVv (As := [.ref (ad 7 p2.1)]) (rest := []) cx hw ((kc_X1_goThread l D cA E _ ad _ hj oq sgq sgv hE n p2.2 b (p2.1) (show _ < 8 by omega) p3 e_p3).2) (cwV 1 cx.2.2.2.2.2.1 (cd_giV cm_507 cm_508 cm_509 cm_130 cm_510) rfl rfl rfl hdc_X1_goThread ⟨Nat.le_of_ble_eq_true rfl, Nat.le_of_ble_eq_true rfl⟩) (cd_atO hj (by decide) (by decide)) rfl rfl hl.1 rfl (Nat.le_of_ble_eq_true rfl) dX1_goOn_21 ⟨by (try dsimp only); omega, by (try dsimp only); omega⟩ (fun u H locs hp hw => ?_)
          obtain ⟨ca, hj, rfl⟩ := hp
          refine W.widen (k := b0.1 - p3.2.2.1) (n := b0.2 - p3.2.2.2) (by omega) (by omega) ?_
          refine lv_aload_n cx.1 cx.2.1 dX1_goOn_24 rfl (lv_at hl 0 rfl) ?_
          refine cd_gI (o := 1) (k := 12) (f := 44) hj cx hw hic1 rfl ⟨by decide, rfl, by decide, rfl⟩ rfl (by decide) (List.mem_cons_of_mem _ cm_160) dX1_goOn_25 ?_
          refine lv_iconst (v := 2) cx.1 cx.2.1 dX1_goOn_28 (by decide) ?_
          refine lv_icmp_ne (tgt := 36) cx.1 cx.2.1 dX1_goOn_29 (by decide) (fun c29 => ?_) (fun c29 => ?_)
          · have h := md_in c29 h
            refine lv_aload_n cx.1 cx.2.1 dX1_goOn_36 rfl (lv_at hl 0 rfl) ?_
            obtain ⟨p5, e_p5, h⟩ := md_ob h
            refine hp_callVi (As := []) (rest := []) cx hw (kc_X1_choose l D cA E _ ad _ hj oq sgq sgv hE n p3.2.1  p5 e_p5) (cwV 0 cx.2.2.2.2.2.1 (cd_giV cm_511 cm_512 cm_513 cm_130 cm_514) rfl rfl rfl hdc_X1_choose ⟨Nat.le_of_ble_eq_true rfl, Nat.le_of_ble_eq_true rfl⟩) (cd_atO hj (by decide) (by decide)) rfl rfl hl.1 rfl (Nat.le_of_ble_eq_true rfl) dX1_goOn_37 ⟨by (try dsimp only); omega, by (try dsimp only); omega⟩ (fun r u H locs hp hw => ?_)
            obtain ⟨rfl, ca, hj, rfl⟩ := hp
            exact J40 _ hj p5.2 (p3.2.2) l2 (p5.1) _ _ _ (by omega) (by omega) (by omega) (by omega) h hw (lv_sub hl [0, 2] rfl)
          · have h := md_ip c29 h
            refine lv_iconst (v := (-1)) cx.1 cx.2.1 dX1_goOn_32 (by decide) ?_
            refine lv_goto (tgt := 40) cx.1 cx.2.1 dX1_goOn_33 (by decide) ?_
            exact J40 _ hj p3.2.1 (p3.2.2) l2 ((-1)) _ _ _ (by omega) (by omega) (by omega) (by omega) h hw (lv_sub hl [0, 2] rfl)
  obtain ⟨q6, e_q6, h⟩ := md_ob h
  obtain ⟨hm7, hn7, h⟩ := cd_cks h
  have hM7 : p.2.2.1 ≤ q6.2.1.1 ∧ p.2.2.2 ≤ q6.2.1.2 := ⟨hm7, hn7⟩
  refine L4 n _ hj σ0 b0 0 0 q6 _ _ _ (by omega) (by omega) (by omega) (by omega) hM7.1 hM7.2 e_q6 hw (lv_sub hl [2, 1, 0] rfl) (fun ca hj H locs ls hb1 hb2 hw hl => ?_)
  refine lv_aload_n cx.1 cx.2.1 dX1_goOn_47 rfl (lv_at hl 0 rfl) ?_
  refine cd_gI (o := 1) (k := 12) (f := 44) hj cx hw hic1 rfl ⟨by decide, rfl, by decide, rfl⟩ rfl (by decide) (List.mem_cons_of_mem _ cm_160) dX1_goOn_48 ?_
  refine lv_iconst (v := 2) cx.1 cx.2.1 dX1_goOn_51 (by decide) ?_
  refine lv_icmp_eq (tgt := 71) cx.1 cx.2.1 dX1_goOn_52 (by decide) (fun c52 => ?_) (fun c52 => ?_)
  · have h := md_ip c52 h
    exact J71 _ hj q6.1 (q6.2.1) _ _ _ (by omega) (by omega) (by omega) (by omega) h hw (lv_sub hl [0] rfl)
  · have h := md_in c52 h
    refine lv_aload_n cx.1 cx.2.1 dX1_goOn_55 rfl (lv_at hl 0 rfl) ?_
    refine lv_aload_n cx.1 cx.2.1 dX1_goOn_56 rfl (lv_at hl 0 rfl) ?_
    obtain ⟨p8, e_p8, h⟩ := md_ob h
    refine hp_callVi (As := []) (rest := [.ref (ad 1 0)]) cx hw (kc_X1_allEnded l D cA E _ ad _ hj oq sgq sgv hE n q6.1  p8 e_p8) (cwV 0 cx.2.2.2.2.2.1 (cd_giV cm_515 cm_516 cm_517 cm_130 cm_518) rfl rfl rfl hdc_X1_allEnded ⟨Nat.le_of_ble_eq_true rfl, Nat.le_of_ble_eq_true rfl⟩) (cd_atO hj (by decide) (by decide)) rfl rfl hl.1 rfl (Nat.le_of_ble_eq_true rfl) dX1_goOn_57 ⟨by (try dsimp only); omega, by (try dsimp only); omega⟩ (fun r u H locs hp hw => ?_)
    obtain ⟨rfl, ca, hj, rfl⟩ := hp
    refine lv_if_eq (tgt := 67) cx.1 cx.2.1 dX1_goOn_60 (by decide) (fun c60 => ?_) (fun c60 => ?_)
    · have h := md_ip c60 h
      refine lv_iconst (v := 1) cx.1 cx.2.1 dX1_goOn_67 (by decide) ?_
      exact J68 _ hj p8.2 (q6.2.1) 1 _ _ _ (by omega) (by omega) (by omega) (by omega) h hw (lv_sub hl [0] rfl)
    · have h := md_in c60 h
      refine lv_iconst (v := 0) cx.1 cx.2.1 dX1_goOn_63 (by decide) ?_
      refine lv_goto (tgt := 68) cx.1 cx.2.1 dX1_goOn_64 (by decide) ?_
      exact J68 _ hj p8.2 (q6.2.1) 0 _ _ _ (by omega) (by omega) (by omega) (by omega) h hw (lv_sub hl [0] rfl)
set_option maxHeartbeats 4000000 in
set_option maxRecDepth 100000 in
theorem kc_X1_tell (l : Launch) (D : va_G) (cA : Nat → ClassId) (E : hp_N) (sz : Nat) (ad : Nat → Nat → Nat) (ca0 : Nat → Nat) (hj : cd_inj ad ca0) (oq sgq sgv : Nat) (hE : cd_E E oq sgq sgv) (n : Nat) (σ0 : cd_S) (a1 : Int32) (p : (Int32 × cd_S)) (h : f_X1_tell n σ0 a1 = some p) : Met l yX1_tell (Cond.code yX1_tell cX1_tell 2 (some .int) :: v_CLS) ({ frames := 1, cells := 0, slots := 0, locals := 20 }) (hp_Pc D vwCl (hp_Tl cA) E sz (cd_pic cA ad ca0 σ0) [.ref (ad 1 0), .int a1]) (hp_Qi D vwCl (hp_Tl cA) sz (cd_pic cA ad ca0 σ0) (fun r u => r = p.1 ∧ ∃ ca1, cd_inj ad ca1 ∧ u = cd_pic cA ad ca1 p.2)) 0 0 (hp_A (cd_pic cA ad ca0 σ0) sz) := by
  refine hp_ofW (cc := cX1_tell) (maxL := 2) (ret := (some .int)) (by decide) rfl (Nat.le_of_ble_eq_true rfl) ?_
  intro pp ee ss mm bb mt cd ls cx hsz hw hl
  have hl : lv_has ls 2 [(0, .ref (ad 1 0)), (1, .int a1)] := hl
  refine lv_iload_n cx.1 cx.2.1 dX1_tell_0 rfl (lv_at hl 1 rfl) ?_
  by_cases c1_0 : a1 = 0
  · refine lv_tableIn (off := 47) (tgt := 48) cx.1 cx.2.1 dX1_tell_1 (by rw [c1_0]; decide) (by rw [c1_0]; decide) (by rw [c1_0]; decide) (by decide) ?_
    have h := md_ip c1_0 h
    refine lv_aload_n cx.1 cx.2.1 dX1_tell_48 rfl (lv_at hl 0 rfl) ?_
    refine cd_gI (o := 1) (k := 12) (f := 44) hj cx hw hic1 rfl ⟨by decide, rfl, by decide, rfl⟩ rfl (by decide) (List.mem_cons_of_mem _ cm_160) dX1_tell_49 ?_
    exact hp_iret cx hw (cd_ret hj h) dX1_tell_52
  have h := md_in c1_0 h
  by_cases c1_1 : a1 = 1
  · refine lv_tableIn (off := 52) (tgt := 53) cx.1 cx.2.1 dX1_tell_1 (by rw [c1_1]; decide) (by rw [c1_1]; decide) (by rw [c1_1]; decide) (by decide) ?_
    have h := md_ip c1_1 h
    refine lv_aload_n cx.1 cx.2.1 dX1_tell_53 rfl (lv_at hl 0 rfl) ?_
    refine cd_gI (o := 1) (k := 9) (f := 41) hj cx hw hic1 rfl ⟨by decide, rfl, by decide, rfl⟩ rfl (by decide) (List.mem_cons_of_mem _ cm_119) dX1_tell_54 ?_
    exact hp_iret cx hw (cd_ret hj h) dX1_tell_57
  have h := md_in c1_1 h
  by_cases c1_2 : a1 = 2
  · refine lv_tableIn (off := 57) (tgt := 58) cx.1 cx.2.1 dX1_tell_1 (by rw [c1_2]; decide) (by rw [c1_2]; decide) (by rw [c1_2]; decide) (by decide) ?_
    have h := md_ip c1_2 h
    refine lv_aload_n cx.1 cx.2.1 dX1_tell_58 rfl (lv_at hl 0 rfl) ?_
    refine cd_gI (o := 1) (k := 8) (f := 40) hj cx hw hic1 rfl ⟨by decide, rfl, by decide, rfl⟩ rfl (by decide) (List.mem_cons_of_mem _ cm_153) dX1_tell_59 ?_
    exact hp_iret cx hw (cd_ret hj h) dX1_tell_62
  have h := md_in c1_2 h
  by_cases c1_3 : a1 = 3
  · refine lv_tableIn (off := 62) (tgt := 63) cx.1 cx.2.1 dX1_tell_1 (by rw [c1_3]; decide) (by rw [c1_3]; decide) (by rw [c1_3]; decide) (by decide) ?_
    have h := md_ip c1_3 h
    refine lv_aload_n cx.1 cx.2.1 dX1_tell_63 rfl (lv_at hl 0 rfl) ?_
    refine cd_gI (o := 1) (k := 11) (f := 43) hj cx hw hic1 rfl ⟨by decide, rfl, by decide, rfl⟩ rfl (by decide) (List.mem_cons_of_mem _ cm_197) dX1_tell_64 ?_
    exact hp_iret cx hw (cd_ret hj h) dX1_tell_67
  have h := md_in c1_3 h
  by_cases c1_4 : a1 = 4
  · refine lv_tableIn (off := 67) (tgt := 68) cx.1 cx.2.1 dX1_tell_1 (by rw [c1_4]; decide) (by rw [c1_4]; decide) (by rw [c1_4]; decide) (by decide) ?_
    have h := md_ip c1_4 h
    refine lv_aload_n cx.1 cx.2.1 dX1_tell_68 rfl (lv_at hl 0 rfl) ?_
    refine cd_gI (o := 1) (k := 13) (f := 45) hj cx hw hic1 rfl ⟨by decide, rfl, by decide, rfl⟩ rfl (by decide) (List.mem_cons_of_mem _ cm_148) dX1_tell_69 ?_
    exact hp_iret cx hw (cd_ret hj h) dX1_tell_72
  have h := md_in c1_4 h
  by_cases c1_5 : a1 = 5
  · refine lv_tableIn (off := 72) (tgt := 73) cx.1 cx.2.1 dX1_tell_1 (by rw [c1_5]; decide) (by rw [c1_5]; decide) (by rw [c1_5]; decide) (by decide) ?_
    have h := md_ip c1_5 h
    refine lv_aload_n cx.1 cx.2.1 dX1_tell_73 rfl (lv_at hl 0 rfl) ?_
    obtain ⟨p1, e_p1, h⟩ := md_ob h
    refine hp_callVi (As := []) (rest := []) cx hw (kc_X1_thingCount l D cA E _ ad _ hj oq sgq sgv hE n σ0  p1 e_p1) (cwV 0 cx.2.2.2.2.2.1 (cd_giV cm_171 cm_172 cm_173 cm_130 cm_174) rfl rfl rfl hdc_X1_thingCount ⟨Nat.le_of_ble_eq_true rfl, Nat.le_of_ble_eq_true rfl⟩) (cd_atO hj (by decide) (by decide)) rfl rfl hl.1 rfl (Nat.le_of_ble_eq_true rfl) dX1_tell_74 ⟨Nat.le_refl _, Nat.le_refl _⟩ (fun r u H locs hp hw => ?_)
    obtain ⟨rfl, ca, hj, rfl⟩ := hp
    exact hp_iret cx hw (cd_ret hj h) dX1_tell_77
  have h := md_in c1_5 h
  by_cases c1_6 : a1 = 6
  · refine lv_tableIn (off := 77) (tgt := 78) cx.1 cx.2.1 dX1_tell_1 (by rw [c1_6]; decide) (by rw [c1_6]; decide) (by rw [c1_6]; decide) (by decide) ?_
    have h := md_ip c1_6 h
    refine lv_aload_n cx.1 cx.2.1 dX1_tell_78 rfl (lv_at hl 0 rfl) ?_
    refine cd_gI (o := 1) (k := 14) (f := 46) hj cx hw hic1 rfl ⟨by decide, rfl, by decide, rfl⟩ rfl (by decide) (List.mem_cons_of_mem _ cm_198) dX1_tell_79 ?_
    exact hp_iret cx hw (cd_ret hj h) dX1_tell_82
  have h := md_in c1_6 h
  by_cases c1_7 : a1 = 7
  · refine lv_tableIn (off := 82) (tgt := 83) cx.1 cx.2.1 dX1_tell_1 (by rw [c1_7]; decide) (by rw [c1_7]; decide) (by rw [c1_7]; decide) (by decide) ?_
    have h := md_ip c1_7 h
    refine lv_aload_n cx.1 cx.2.1 dX1_tell_83 rfl (lv_at hl 0 rfl) ?_
    refine cd_gO (o2 := 0) (e2 := 0) (o := 1) (k := 2) (f := 34) hj cx hw hic1 rfl ⟨by decide, rfl, by decide, rfl⟩ rfl (by decide) ⟨rfl, rfl⟩ (List.mem_cons_of_mem _ cm_76) dX1_tell_84 ?_
    obtain ⟨p2, e_p2, h⟩ := md_ob h
    refine hp_callVi (As := []) (rest := []) cx hw (kc_X0_made l D cA E _ ad _ hj oq sgq sgv hE n σ0  p2 e_p2) (cwV 0 cx.2.2.2.2.2.1 (cd_giV cm_519 cm_520 cm_521 cm_23 cm_522) rfl rfl rfl hdc_X0_made ⟨Nat.le_of_ble_eq_true rfl, Nat.le_of_ble_eq_true rfl⟩) (cd_atO hj (by decide) (by decide)) rfl rfl hl.1 rfl (Nat.le_of_ble_eq_true rfl) dX1_tell_87 ⟨Nat.le_refl _, Nat.le_refl _⟩ (fun r u H locs hp hw => ?_)
    obtain ⟨rfl, ca, hj, rfl⟩ := hp
    exact hp_iret cx hw (cd_ret hj h) dX1_tell_90
  have h := md_in c1_7 h
  have nc1_0 := md_nei c1_0
  have nc1_1 := md_nei c1_1
  have nc1_2 := md_nei c1_2
  have nc1_3 := md_nei c1_3
  have nc1_4 := md_nei c1_4
  have nc1_5 := md_nei c1_5
  have nc1_6 := md_nei c1_6
  have nc1_7 := md_nei c1_7
  refine lv_tableOut (tgt := 91) cx.1 cx.2.1 dX1_tell_1 (by have := nc1_0; rw [show ((0 : Int32)).toInt = 0 from by decide] at this; have := nc1_1; rw [show ((1 : Int32)).toInt = 1 from by decide] at this; have := nc1_2; rw [show ((2 : Int32)).toInt = 2 from by decide] at this; have := nc1_3; rw [show ((3 : Int32)).toInt = 3 from by decide] at this; have := nc1_4; rw [show ((4 : Int32)).toInt = 4 from by decide] at this; have := nc1_5; rw [show ((5 : Int32)).toInt = 5 from by decide] at this; have := nc1_6; rw [show ((6 : Int32)).toInt = 6 from by decide] at this; have := nc1_7; rw [show ((7 : Int32)).toInt = 7 from by decide] at this;  omega) (by decide) ?_
  refine lv_iconst (v := (-1)) cx.1 cx.2.1 dX1_tell_91 (by decide) ?_
  exact hp_iret cx hw (cd_ret hj h) dX1_tell_92
set_option maxHeartbeats 4000000 in
set_option maxRecDepth 100000 in
theorem kc_X1_tellEvent (l : Launch) (D : va_G) (cA : Nat → ClassId) (E : hp_N) (sz : Nat) (ad : Nat → Nat → Nat) (ca0 : Nat → Nat) (hj : cd_inj ad ca0) (oq sgq sgv : Nat) (hE : cd_E E oq sgq sgv) (n : Nat) (σ0 : cd_S) (a1 : Int32) (a2 : Int32) (p : (Int32 × cd_S)) (h : f_X1_tellEvent n σ0 a1 a2 = some p) : Met l yX1_tellEvent (Cond.code yX1_tellEvent cX1_tellEvent 3 (some .int) :: v_CLS) ({ frames := 1, cells := 0, slots := 0, locals := 21 }) (hp_Pc D vwCl (hp_Tl cA) E sz (cd_pic cA ad ca0 σ0) [.ref (ad 1 0), .int a1, .int a2]) (hp_Qi D vwCl (hp_Tl cA) sz (cd_pic cA ad ca0 σ0) (fun r u => r = p.1 ∧ ∃ ca1, cd_inj ad ca1 ∧ u = cd_pic cA ad ca1 p.2)) 0 0 (hp_A (cd_pic cA ad ca0 σ0) sz) := by
  refine hp_ofW (cc := cX1_tellEvent) (maxL := 3) (ret := (some .int)) (by decide) rfl (Nat.le_of_ble_eq_true rfl) ?_
  intro pp ee ss mm bb mt cd ls cx hsz hw hl
  have hl : lv_has ls 3 [(0, .ref (ad 1 0)), (1, .int a1), (2, .int a2)] := hl
  refine lv_iload_n cx.1 cx.2.1 dX1_tellEvent_0 rfl (lv_at hl 1 rfl) ?_
  refine lv_if_lt (tgt := 26) cx.1 cx.2.1 dX1_tellEvent_1 (by decide) (fun c1 => ?_) (fun c1 => ?_)
  · have h := md_ip c1 h
    refine lv_iconst (v := (-1)) cx.1 cx.2.1 dX1_tellEvent_26 (by decide) ?_
    exact hp_iret cx hw (cd_ret hj h) dX1_tellEvent_27
  · have h := md_in c1 h
    refine lv_iload_n cx.1 cx.2.1 dX1_tellEvent_4 rfl (lv_at hl 1 rfl) ?_
    refine lv_aload_n cx.1 cx.2.1 dX1_tellEvent_5 rfl (lv_at hl 0 rfl) ?_
    refine cd_gO (o2 := 6) (e2 := 8) (o := 1) (k := 7) (f := 39) hj cx hw hic1 rfl ⟨by decide, rfl, by decide, rfl⟩ rfl (by decide) ⟨rfl, rfl⟩ (List.mem_cons_of_mem _ cm_196) dX1_tellEvent_6 ?_
    refine cd_gI (o := 6) (k := 1) (f := 193) hj cx hw hic6 rfl ⟨by decide, rfl, by decide, rfl⟩ rfl (by decide) (List.mem_cons_of_mem _ cm_74) dX1_tellEvent_9 ?_
    refine lv_iconst (v := 5) cx.1 cx.2.1 dX1_tellEvent_12 (by decide) ?_
    refine lv_idiv cx.1 cx.2.1 dX1_tellEvent_13 (by decide) ?_
    refine lv_icmp_ge (tgt := 26) cx.1 cx.2.1 dX1_tellEvent_14 (by decide) (fun c14 => ?_) (fun c14 => ?_)
    · have h := md_ip c14 h
      refine lv_iconst (v := (-1)) cx.1 cx.2.1 dX1_tellEvent_26 (by decide) ?_
      exact hp_iret cx hw (cd_ret hj h) dX1_tellEvent_27
    · have h := md_in c14 h
      refine lv_iload_n cx.1 cx.2.1 dX1_tellEvent_17 rfl (lv_at hl 2 rfl) ?_
      refine lv_if_lt (tgt := 26) cx.1 cx.2.1 dX1_tellEvent_18 (by decide) (fun c18 => ?_) (fun c18 => ?_)
      · have h := md_ip c18 h
        refine lv_iconst (v := (-1)) cx.1 cx.2.1 dX1_tellEvent_26 (by decide) ?_
        exact hp_iret cx hw (cd_ret hj h) dX1_tellEvent_27
      · have h := md_in c18 h
        refine lv_iload_n cx.1 cx.2.1 dX1_tellEvent_21 rfl (lv_at hl 2 rfl) ?_
        refine lv_iconst (v := 5) cx.1 cx.2.1 dX1_tellEvent_22 (by decide) ?_
        refine lv_icmp_lt (tgt := 28) cx.1 cx.2.1 dX1_tellEvent_23 (by decide) (fun c23 => ?_) (fun c23 => ?_)
        · have h := md_ip c23 h
          refine lv_aload_n cx.1 cx.2.1 dX1_tellEvent_28 rfl (lv_at hl 0 rfl) ?_
          refine cd_gO (o2 := 6) (e2 := 8) (o := 1) (k := 7) (f := 39) hj cx hw hic1 rfl ⟨by decide, rfl, by decide, rfl⟩ rfl (by decide) ⟨rfl, rfl⟩ (List.mem_cons_of_mem _ cm_196) dX1_tellEvent_29 ?_
          refine lv_iload_n cx.1 cx.2.1 dX1_tellEvent_32 rfl (lv_at hl 1 rfl) ?_
          refine lv_iconst (v := 5) cx.1 cx.2.1 dX1_tellEvent_33 (by decide) ?_
          refine lv_imul cx.1 cx.2.1 dX1_tellEvent_34 ?_
          refine lv_iload_n cx.1 cx.2.1 dX1_tellEvent_35 rfl (lv_at hl 2 rfl) ?_
          refine lv_iadd cx.1 cx.2.1 dX1_tellEvent_36 ?_
          obtain ⟨p1, e_p1, h⟩ := md_ob h
          refine hp_callVi (As := [.int ((a1 * 5) + a2)]) (rest := []) cx hw (kc_X6_at l D cA E _ ad _ hj oq sgq sgv hE n σ0 8 (((a1 * 5) + a2)) (by decide) p1 e_p1) (cwV 1 cx.2.2.2.2.2.1 (cd_giV cm_267 cm_17 cm_18 cm_5 cm_19) rfl rfl rfl hdc_X6_at ⟨Nat.le_of_ble_eq_true rfl, Nat.le_of_ble_eq_true rfl⟩) (cd_atO hj (by decide) (by decide)) rfl rfl hl.1 rfl (Nat.le_of_ble_eq_true rfl) dX1_tellEvent_37 ⟨Nat.le_refl _, Nat.le_refl _⟩ (fun r u H locs hp hw => ?_)
          obtain ⟨rfl, ca, hj, rfl⟩ := hp
          exact hp_iret cx hw (cd_ret hj h) dX1_tellEvent_40
        · have h := md_in c23 h
          refine lv_iconst (v := (-1)) cx.1 cx.2.1 dX1_tellEvent_26 (by decide) ?_
          exact hp_iret cx hw (cd_ret hj h) dX1_tellEvent_27
set_option maxHeartbeats 4000000 in
set_option maxRecDepth 100000 in
theorem kc_X1_tellThread (l : Launch) (D : va_G) (cA : Nat → ClassId) (E : hp_N) (sz : Nat) (ad : Nat → Nat → Nat) (ca0 : Nat → Nat) (hj : cd_inj ad ca0) (oq sgq sgv : Nat) (hE : cd_E E oq sgq sgv) (n : Nat) (σ0 : cd_S) (a1 : Int32) (a2 : Int32) (p : (Int32 × cd_S)) (h : f_X1_tellThread n σ0 a1 a2 = some p) : Met l yX1_tellThread (Cond.code yX1_tellThread cX1_tellThread 5 (some .int) :: v_CLS) ({ frames := 2, cells := 0, slots := 0, locals := 42 }) (hp_Pc D vwCl (hp_Tl cA) E sz (cd_pic cA ad ca0 σ0) [.ref (ad 1 0), .int a1, .int a2]) (hp_Qi D vwCl (hp_Tl cA) sz (cd_pic cA ad ca0 σ0) (fun r u => r = p.1 ∧ ∃ ca1, cd_inj ad ca1 ∧ u = cd_pic cA ad ca1 p.2)) 0 0 (hp_A (cd_pic cA ad ca0 σ0) sz) := by
  refine hp_ofW (cc := cX1_tellThread) (maxL := 5) (ret := (some .int)) (by decide) rfl (Nat.le_of_ble_eq_true rfl) ?_
  intro pp ee ss mm bb mt cd ls cx hsz hw hl
  have hl : lv_has ls 5 [(0, .ref (ad 1 0)), (1, .int a1), (2, .int a2)] := hl
  refine lv_iload_n cx.1 cx.2.1 dX1_tellThread_0 rfl (lv_at hl 1 rfl) ?_
  refine lv_if_lt (tgt := 12) cx.1 cx.2.1 dX1_tellThread_1 (by decide) (fun c1 => ?_) (fun c1 => ?_)
  · have h := md_ip c1 h
    refine lv_iconst (v := (-1)) cx.1 cx.2.1 dX1_tellThread_12 (by decide) ?_
    exact hp_iret cx hw (cd_ret hj h) dX1_tellThread_13
  · have h := md_in c1 h
    refine lv_iload_n cx.1 cx.2.1 dX1_tellThread_4 rfl (lv_at hl 1 rfl) ?_
    refine lv_aload_n cx.1 cx.2.1 dX1_tellThread_5 rfl (lv_at hl 0 rfl) ?_
    refine cd_gI (o := 1) (k := 8) (f := 40) hj cx hw hic1 rfl ⟨by decide, rfl, by decide, rfl⟩ rfl (by decide) (List.mem_cons_of_mem _ cm_153) dX1_tellThread_6 ?_
    refine lv_icmp_lt (tgt := 14) cx.1 cx.2.1 dX1_tellThread_9 (by decide) (fun c9 => ?_) (fun c9 => ?_)
    · have h := md_ip c9 h
      refine lv_aload_n cx.1 cx.2.1 dX1_tellThread_14 rfl (lv_at hl 0 rfl) ?_
      refine lv_iload_n cx.1 cx.2.1 dX1_tellThread_15 rfl (lv_at hl 1 rfl) ?_
      obtain ⟨p1, e_p1, h⟩ := md_ob h
      refine hp_callVr (As := [.int a1]) (rest := []) cx hw (kc_X1_strandAt l D cA E _ ad _ hj oq sgq sgv hE n σ0 a1 p1 e_p1) (cwV 1 cx.2.2.2.2.2.1 (cd_giV cm_219 cm_220 cm_221 cm_130 cm_222) rfl rfl rfl hdc_X1_strandAt ⟨Nat.le_of_ble_eq_true rfl, Nat.le_of_ble_eq_true rfl⟩) (cd_atO hj (by decide) (by decide)) rfl rfl hl.1 rfl (Nat.le_of_ble_eq_true rfl) dX1_tellThread_16 ⟨Nat.le_refl _, Nat.le_refl _⟩ (fun r u H locs hp hw => ?_)
      obtain ⟨⟨hb_p1, rfl⟩, ca, hj, rfl⟩ := hp
      refine lv_astore_n (lv' := [(3, .ref (ad 7 p1.1)), (0, .ref (ad 1 0)), (1, .int a1), (2, .int a2)]) cx.1 cx.2.1 dX1_tellThread_19 rfl hl (by decide) rfl (fun ls hl => ?_)
      refine lv_aload_n cx.1 cx.2.1 dX1_tellThread_20 rfl (lv_at hl 0 rfl) ?_
      refine cd_gJ (o := 7) (k := 12) (f := 236) hj cx hw hic7 rfl ⟨by decide, rfl, by decide, rfl⟩ rfl (show _ < 8 by omega) (List.mem_cons_of_mem _ cm_370) dX1_tellThread_21 ?_
      obtain ⟨p2, e_p2, h⟩ := md_ob h
      refine hp_callSi (As := [.long (cJ p1.2 236 (p1.1))]) (rest := []) cx hw (kc_X1_sortOf l D cA E _ ad _ hj oq sgq sgv hE n p1.2 ((cJ p1.2 236 (p1.1))) p2 e_p2) (cwS 1 cx.2.2.2.2.2.1 (cd_giS cm_279 cm_244 cm_130 cm_245) rfl rfl rfl hdc_X1_sortOf ⟨Nat.le_of_ble_eq_true rfl, Nat.le_of_ble_eq_true rfl⟩) rfl hl.1 rfl (Nat.le_of_ble_eq_true rfl) dX1_tellThread_24 ⟨Nat.le_refl _, Nat.le_refl _⟩ (fun r u H locs hp hw => ?_)
      obtain ⟨rfl, ca, hj, rfl⟩ := hp
      refine lv_istore (lv' := [(4, .int p2.1), (3, .ref (ad 7 p1.1)), (0, .ref (ad 1 0)), (1, .int a1), (2, .int a2)]) cx.1 cx.2.1 dX1_tellThread_27 hl (by decide) rfl (fun ls hl => ?_)
      refine lv_iload_n cx.1 cx.2.1 dX1_tellThread_29 rfl (lv_at hl 4 rfl) ?_
      by_cases c30_0 : a2 = 0
      · refine lv_tableIn (off := 34) (tgt := 64) cx.1 cx.2.1 dX1_tellThread_30 (by rw [c30_0]; decide) (by rw [c30_0]; decide) (by rw [c30_0]; decide) (by decide) ?_
        have h := md_ip c30_0 h
        refine lv_aload_n cx.1 cx.2.1 dX1_tellThread_64 rfl (lv_at hl 1 rfl) ?_
        refine cd_gI (o := 7) (k := 10) (f := 234) hj cx hw hic7 rfl ⟨by decide, rfl, by decide, rfl⟩ rfl (show _ < 8 by omega) (List.mem_cons_of_mem _ cm_223) dX1_tellThread_65 ?_
        exact hp_iret cx hw (cd_ret hj h) dX1_tellThread_68
      have h := md_in c30_0 h
      by_cases c30_1 : a2 = 1
      · refine lv_tableIn (off := 39) (tgt := 69) cx.1 cx.2.1 dX1_tellThread_30 (by rw [c30_1]; decide) (by rw [c30_1]; decide) (by rw [c30_1]; decide) (by decide) ?_
        have h := md_ip c30_1 h
        refine lv_iload cx.1 cx.2.1 dX1_tellThread_69 (lv_at hl 0 rfl) ?_
        refine lv_if_ne (tgt := 82) cx.1 cx.2.1 dX1_tellThread_71 (by decide) (fun c71 => ?_) (fun c71 => ?_)
        · have h := md_in c71 h
          refine lv_iconst (v := 0) cx.1 cx.2.1 dX1_tellThread_82 (by decide) ?_
          exact hp_iret cx hw (cd_ret hj h) dX1_tellThread_83
        · have h := md_ip c71 h
          refine lv_aload_n cx.1 cx.2.1 dX1_tellThread_74 rfl (lv_at hl 1 rfl) ?_
          refine cd_gJ (o := 7) (k := 12) (f := 236) hj cx hw hic7 rfl ⟨by decide, rfl, by decide, rfl⟩ rfl (show _ < 8 by omega) (List.mem_cons_of_mem _ cm_370) dX1_tellThread_75 ?_
          refine lv_l2i (v := ((cJ p2.2 236 (p1.1)).toInt32)) cx.1 cx.2.1 dX1_tellThread_78 rfl ?_
          refine lv_goto (tgt := 83) cx.1 cx.2.1 dX1_tellThread_79 (by decide) ?_
          exact hp_iret cx hw (cd_ret hj h) dX1_tellThread_83
      have h := md_in c30_1 h
      by_cases c30_2 : a2 = 2
      · refine lv_tableIn (off := 54) (tgt := 84) cx.1 cx.2.1 dX1_tellThread_30 (by rw [c30_2]; decide) (by rw [c30_2]; decide) (by rw [c30_2]; decide) (by decide) ?_
        have h := md_ip c30_2 h
        refine lv_aload_n cx.1 cx.2.1 dX1_tellThread_84 rfl (lv_at hl 1 rfl) ?_
        refine cd_gI (o := 7) (k := 10) (f := 234) hj cx hw hic7 rfl ⟨by decide, rfl, by decide, rfl⟩ rfl (show _ < 8 by omega) (List.mem_cons_of_mem _ cm_223) dX1_tellThread_85 ?_
        refine lv_iconst (v := 1) cx.1 cx.2.1 dX1_tellThread_88 (by decide) ?_
        refine lv_icmp_ne (tgt := 97) cx.1 cx.2.1 dX1_tellThread_89 (by decide) (fun c89 => ?_) (fun c89 => ?_)
        · have h := md_in c89 h
          refine lv_iconst (v := (-1)) cx.1 cx.2.1 dX1_tellThread_97 (by decide) ?_
          exact hp_iret cx hw (cd_ret hj h) dX1_tellThread_98
        · have h := md_ip c89 h
          refine lv_iload cx.1 cx.2.1 dX1_tellThread_92 (lv_at hl 0 rfl) ?_
          refine lv_goto (tgt := 98) cx.1 cx.2.1 dX1_tellThread_94 (by decide) ?_
          exact hp_iret cx hw (cd_ret hj h) dX1_tellThread_98
      have h := md_in c30_2 h
      by_cases c30_3 : a2 = 3
      · refine lv_tableIn (off := 69) (tgt := 99) cx.1 cx.2.1 dX1_tellThread_30 (by rw [c30_3]; decide) (by rw [c30_3]; decide) (by rw [c30_3]; decide) (by decide) ?_
        have h := md_ip c30_3 h
        refine lv_aload_n cx.1 cx.2.1 dX1_tellThread_99 rfl (lv_at hl 1 rfl) ?_
        refine cd_gI (o := 7) (k := 9) (f := 233) hj cx hw hic7 rfl ⟨by decide, rfl, by decide, rfl⟩ rfl (show _ < 8 by omega) (List.mem_cons_of_mem _ cm_523) dX1_tellThread_100 ?_
        exact hp_iret cx hw (cd_ret hj h) dX1_tellThread_103
      have h := md_in c30_3 h
      by_cases c30_4 : a2 = 4
      · refine lv_tableIn (off := 74) (tgt := 104) cx.1 cx.2.1 dX1_tellThread_30 (by rw [c30_4]; decide) (by rw [c30_4]; decide) (by rw [c30_4]; decide) (by decide) ?_
        have h := md_ip c30_4 h
        refine lv_aload_n cx.1 cx.2.1 dX1_tellThread_104 rfl (lv_at hl 1 rfl) ?_
        refine cd_gI (o := 7) (k := 11) (f := 235) hj cx hw hic7 rfl ⟨by decide, rfl, by decide, rfl⟩ rfl (show _ < 8 by omega) (List.mem_cons_of_mem _ cm_228) dX1_tellThread_105 ?_
        refine lv_iconst (v := (-1)) cx.1 cx.2.1 dX1_tellThread_108 (by decide) ?_
        refine lv_icmp_eq (tgt := 130) cx.1 cx.2.1 dX1_tellThread_109 (by decide) (fun c109 => ?_) (fun c109 => ?_)
        · have h := md_ip c109 h
          refine lv_iconst (v := (-1)) cx.1 cx.2.1 dX1_tellThread_130 (by decide) ?_
          exact hp_iret cx hw (cd_ret hj h) dX1_tellThread_131
        · have h := md_in c109 h
          refine lv_aload_n cx.1 cx.2.1 dX1_tellThread_112 rfl (lv_at hl 2 rfl) ?_
          refine lv_aload_n cx.1 cx.2.1 dX1_tellThread_113 rfl (lv_at hl 1 rfl) ?_
          refine cd_gI (o := 7) (k := 11) (f := 235) hj cx hw hic7 rfl ⟨by decide, rfl, by decide, rfl⟩ rfl (show _ < 8 by omega) (List.mem_cons_of_mem _ cm_228) dX1_tellThread_114 ?_
          obtain ⟨p3, e_p3, h⟩ := md_ob h
          refine hp_callVi (As := [.int (cI p2.2 235 (p1.1))]) (rest := []) cx hw (kc_X1_hasEnded l D cA E _ ad _ hj oq sgq sgv hE n p2.2 ((cI p2.2 235 (p1.1))) p3 e_p3) (cwV 1 cx.2.2.2.2.2.1 (cd_giV cm_224 cm_225 cm_226 cm_130 cm_227) rfl rfl rfl hdc_X1_hasEnded ⟨Nat.le_of_ble_eq_true rfl, Nat.le_of_ble_eq_true rfl⟩) (cd_atO hj (by decide) (by decide)) rfl rfl hl.1 rfl (Nat.le_of_ble_eq_true rfl) dX1_tellThread_117 ⟨Nat.le_refl _, Nat.le_refl _⟩ (fun r u H locs hp hw => ?_)
          obtain ⟨rfl, ca, hj, rfl⟩ := hp
          refine lv_if_ne (tgt := 130) cx.1 cx.2.1 dX1_tellThread_120 (by decide) (fun c120 => ?_) (fun c120 => ?_)
          · have h := md_in c120 h
            refine lv_iconst (v := (-1)) cx.1 cx.2.1 dX1_tellThread_130 (by decide) ?_
            exact hp_iret cx hw (cd_ret hj h) dX1_tellThread_131
          · have h := md_ip c120 h
            refine lv_aload_n cx.1 cx.2.1 dX1_tellThread_123 rfl (lv_at hl 1 rfl) ?_
            refine cd_gI (o := 7) (k := 11) (f := 235) hj cx hw hic7 rfl ⟨by decide, rfl, by decide, rfl⟩ rfl (show _ < 8 by omega) (List.mem_cons_of_mem _ cm_228) dX1_tellThread_124 ?_
            refine lv_goto (tgt := 131) cx.1 cx.2.1 dX1_tellThread_127 (by decide) ?_
            exact hp_iret cx hw (cd_ret hj h) dX1_tellThread_131
      have h := md_in c30_4 h
      have nc30_0 := md_nei c30_0
      have nc30_1 := md_nei c30_1
      have nc30_2 := md_nei c30_2
      have nc30_3 := md_nei c30_3
      have nc30_4 := md_nei c30_4
      refine lv_tableOut (tgt := 132) cx.1 cx.2.1 dX1_tellThread_30 (by have := nc30_0; rw [show ((0 : Int32)).toInt = 0 from by decide] at this; have := nc30_1; rw [show ((1 : Int32)).toInt = 1 from by decide] at this; have := nc30_2; rw [show ((2 : Int32)).toInt = 2 from by decide] at this; have := nc30_3; rw [show ((3 : Int32)).toInt = 3 from by decide] at this; have := nc30_4; rw [show ((4 : Int32)).toInt = 4 from by decide] at this;  omega) (by decide) ?_
      refine lv_iconst (v := (-1)) cx.1 cx.2.1 dX1_tellThread_132 (by decide) ?_
      exact hp_iret cx hw (cd_ret hj h) dX1_tellThread_133
    · have h := md_in c9 h
      refine lv_iconst (v := (-1)) cx.1 cx.2.1 dX1_tellThread_12 (by decide) ?_
      exact hp_iret cx hw (cd_ret hj h) dX1_tellThread_13
set_option maxHeartbeats 4000000 in
set_option maxRecDepth 100000 in
theorem kc_X1_tellContext (l : Launch) (D : va_G) (cA : Nat → ClassId) (E : hp_N) (sz : Nat) (ad : Nat → Nat → Nat) (ca0 : Nat → Nat) (hj : cd_inj ad ca0) (oq sgq sgv : Nat) (hE : cd_E E oq sgq sgv) (n : Nat) (σ0 : cd_S) (a1 : Int32) (a2 : Int32) (p : (Int32 × cd_S)) (h : f_X1_tellContext n σ0 a1 a2 = some p) : Met l yX1_tellContext (Cond.code yX1_tellContext cX1_tellContext 3 (some .int) :: v_CLS) ({ frames := 2, cells := 0, slots := 0, locals := 43 }) (hp_Pc D vwCl (hp_Tl cA) E sz (cd_pic cA ad ca0 σ0) [.ref (ad 1 0), .int a1, .int a2]) (hp_Qi D vwCl (hp_Tl cA) sz (cd_pic cA ad ca0 σ0) (fun r u => r = p.1 ∧ ∃ ca1, cd_inj ad ca1 ∧ u = cd_pic cA ad ca1 p.2)) 0 0 (hp_A (cd_pic cA ad ca0 σ0) sz) := by
  refine hp_ofW (cc := cX1_tellContext) (maxL := 3) (ret := (some .int)) (by decide) rfl (Nat.le_of_ble_eq_true rfl) ?_
  intro pp ee ss mm bb mt cd ls cx hsz hw hl
  have hl : lv_has ls 3 [(0, .ref (ad 1 0)), (1, .int a1), (2, .int a2)] := hl
  refine lv_iload_n cx.1 cx.2.1 dX1_tellContext_0 rfl (lv_at hl 1 rfl) ?_
  refine lv_if_lt (tgt := 15) cx.1 cx.2.1 dX1_tellContext_1 (by decide) (fun c1 => ?_) (fun c1 => ?_)
  · have h := md_ip c1 h
    refine lv_iconst (v := (-1)) cx.1 cx.2.1 dX1_tellContext_15 (by decide) ?_
    exact hp_iret cx hw (cd_ret hj h) dX1_tellContext_16
  · have h := md_in c1 h
    refine lv_iload_n cx.1 cx.2.1 dX1_tellContext_4 rfl (lv_at hl 1 rfl) ?_
    refine lv_aload_n cx.1 cx.2.1 dX1_tellContext_5 rfl (lv_at hl 0 rfl) ?_
    refine cd_gO (o2 := 0) (e2 := 0) (o := 1) (k := 2) (f := 34) hj cx hw hic1 rfl ⟨by decide, rfl, by decide, rfl⟩ rfl (by decide) ⟨rfl, rfl⟩ (List.mem_cons_of_mem _ cm_76) dX1_tellContext_6 ?_
    obtain ⟨p1, e_p1, h⟩ := md_ob h
    refine hp_callVi (As := []) (rest := [.int a1]) cx hw (kc_X0_made l D cA E _ ad _ hj oq sgq sgv hE n σ0  p1 e_p1) (cwV 0 cx.2.2.2.2.2.1 (cd_giV cm_519 cm_520 cm_521 cm_23 cm_522) rfl rfl rfl hdc_X0_made ⟨Nat.le_of_ble_eq_true rfl, Nat.le_of_ble_eq_true rfl⟩) (cd_atO hj (by decide) (by decide)) rfl rfl hl.1 rfl (Nat.le_of_ble_eq_true rfl) dX1_tellContext_9 ⟨Nat.le_refl _, Nat.le_refl _⟩ (fun r u H locs hp hw => ?_)
    obtain ⟨rfl, ca, hj, rfl⟩ := hp
    refine lv_icmp_lt (tgt := 17) cx.1 cx.2.1 dX1_tellContext_12 (by decide) (fun c12 => ?_) (fun c12 => ?_)
    · have h := md_ip c12 h
      refine lv_iload_n cx.1 cx.2.1 dX1_tellContext_17 rfl (lv_at hl 2 rfl) ?_
      refine lv_iconst (v := (-1)) cx.1 cx.2.1 dX1_tellContext_18 (by decide) ?_
      refine lv_icmp_ne (tgt := 31) cx.1 cx.2.1 dX1_tellContext_19 (by decide) (fun c19 => ?_) (fun c19 => ?_)
      · have h := md_in c19 h
        refine lv_iload_n cx.1 cx.2.1 dX1_tellContext_31 rfl (lv_at hl 2 rfl) ?_
        refine lv_if_lt (tgt := 59) cx.1 cx.2.1 dX1_tellContext_32 (by decide) (fun c32 => ?_) (fun c32 => ?_)
        · have h := md_ip c32 h
          refine lv_iconst (v := (-1)) cx.1 cx.2.1 dX1_tellContext_59 (by decide) ?_
          exact hp_iret cx hw (cd_ret hj h) dX1_tellContext_60
        · have h := md_in c32 h
          refine lv_iload_n cx.1 cx.2.1 dX1_tellContext_35 rfl (lv_at hl 2 rfl) ?_
          refine lv_aload_n cx.1 cx.2.1 dX1_tellContext_36 rfl (lv_at hl 0 rfl) ?_
          refine cd_gO (o2 := 0) (e2 := 0) (o := 1) (k := 2) (f := 34) hj cx hw hic1 rfl ⟨by decide, rfl, by decide, rfl⟩ rfl (by decide) ⟨rfl, rfl⟩ (List.mem_cons_of_mem _ cm_76) dX1_tellContext_37 ?_
          refine lv_iload_n cx.1 cx.2.1 dX1_tellContext_40 rfl (lv_at hl 1 rfl) ?_
          obtain ⟨p2, e_p2, h⟩ := md_ob h
          refine hp_callVi (As := [.int a1]) (rest := [.int a2]) cx hw (kc_X0_productCount l D cA E _ ad _ hj oq sgq sgv hE n p1.2 a1 p2 e_p2) (cwV 1 cx.2.2.2.2.2.1 (cd_giV cm_524 cm_21 cm_22 cm_23 cm_24) rfl rfl rfl hdc_X0_productCount ⟨Nat.le_of_ble_eq_true rfl, Nat.le_of_ble_eq_true rfl⟩) (cd_atO hj (by decide) (by decide)) rfl rfl hl.1 rfl (Nat.le_of_ble_eq_true rfl) dX1_tellContext_41 ⟨Nat.le_refl _, Nat.le_refl _⟩ (fun r u H locs hp hw => ?_)
          obtain ⟨rfl, ca, hj, rfl⟩ := hp
          refine lv_icmp_ge (tgt := 59) cx.1 cx.2.1 dX1_tellContext_44 (by decide) (fun c44 => ?_) (fun c44 => ?_)
          · have h := md_ip c44 h
            refine lv_iconst (v := (-1)) cx.1 cx.2.1 dX1_tellContext_59 (by decide) ?_
            exact hp_iret cx hw (cd_ret hj h) dX1_tellContext_60
          · have h := md_in c44 h
            refine lv_aload_n cx.1 cx.2.1 dX1_tellContext_47 rfl (lv_at hl 0 rfl) ?_
            refine cd_gO (o2 := 0) (e2 := 0) (o := 1) (k := 2) (f := 34) hj cx hw hic1 rfl ⟨by decide, rfl, by decide, rfl⟩ rfl (by decide) ⟨rfl, rfl⟩ (List.mem_cons_of_mem _ cm_76) dX1_tellContext_48 ?_
            refine lv_iload_n cx.1 cx.2.1 dX1_tellContext_51 rfl (lv_at hl 1 rfl) ?_
            refine lv_iload_n cx.1 cx.2.1 dX1_tellContext_52 rfl (lv_at hl 2 rfl) ?_
            obtain ⟨p3, e_p3, h⟩ := md_ob h
            refine hp_callVi (As := [.int a1, .int a2]) (rest := []) cx hw (kc_X0_product l D cA E _ ad _ hj oq sgq sgv hE n p2.2 a1 a2 p3 e_p3) (cwV 2 cx.2.2.2.2.2.1 (cd_giV cm_525 cm_26 cm_27 cm_23 cm_28) rfl rfl rfl hdc_X0_product ⟨Nat.le_of_ble_eq_true rfl, Nat.le_of_ble_eq_true rfl⟩) (cd_atO hj (by decide) (by decide)) rfl rfl hl.1 rfl (Nat.le_of_ble_eq_true rfl) dX1_tellContext_53 ⟨Nat.le_refl _, Nat.le_refl _⟩ (fun r u H locs hp hw => ?_)
            obtain ⟨rfl, ca, hj, rfl⟩ := hp
            refine lv_goto (tgt := 60) cx.1 cx.2.1 dX1_tellContext_56 (by decide) ?_
            exact hp_iret cx hw (cd_ret hj h) dX1_tellContext_60
      · have h := md_ip c19 h
        refine lv_aload_n cx.1 cx.2.1 dX1_tellContext_22 rfl (lv_at hl 0 rfl) ?_
        refine cd_gO (o2 := 0) (e2 := 0) (o := 1) (k := 2) (f := 34) hj cx hw hic1 rfl ⟨by decide, rfl, by decide, rfl⟩ rfl (by decide) ⟨rfl, rfl⟩ (List.mem_cons_of_mem _ cm_76) dX1_tellContext_23 ?_
        refine lv_iload_n cx.1 cx.2.1 dX1_tellContext_26 rfl (lv_at hl 1 rfl) ?_
        obtain ⟨p4, e_p4, h⟩ := md_ob h
        refine hp_callVi (As := [.int a1]) (rest := []) cx hw (kc_X0_productCount l D cA E _ ad _ hj oq sgq sgv hE n p1.2 a1 p4 e_p4) (cwV 1 cx.2.2.2.2.2.1 (cd_giV cm_524 cm_21 cm_22 cm_23 cm_24) rfl rfl rfl hdc_X0_productCount ⟨Nat.le_of_ble_eq_true rfl, Nat.le_of_ble_eq_true rfl⟩) (cd_atO hj (by decide) (by decide)) rfl rfl hl.1 rfl (Nat.le_of_ble_eq_true rfl) dX1_tellContext_27 ⟨Nat.le_refl _, Nat.le_refl _⟩ (fun r u H locs hp hw => ?_)
        obtain ⟨rfl, ca, hj, rfl⟩ := hp
        exact hp_iret cx hw (cd_ret hj h) dX1_tellContext_30
    · have h := md_in c12 h
      refine lv_iconst (v := (-1)) cx.1 cx.2.1 dX1_tellContext_15 (by decide) ?_
      exact hp_iret cx hw (cd_ret hj h) dX1_tellContext_16
set_option maxHeartbeats 4000000 in
set_option maxRecDepth 100000 in
theorem kc_X3_clear (l : Launch) (D : va_G) (cA : Nat → ClassId) (E : hp_N) (sz : Nat) (ad : Nat → Nat → Nat) (ca0 : Nat → Nat) (hj : cd_inj ad ca0) (oq sgq sgv : Nat) (hE : cd_E E oq sgq sgv) (n : Nat) (σ0 : cd_S) (p : (Int32 × cd_S)) (h : f_X3_clear n σ0 = some p) : Met l yX3_clear (Cond.code yX3_clear cX3_clear 1 none :: v_CLS) ({ frames := 0, cells := 0, slots := 0, locals := 0 }) (hp_Pc D vwCl (hp_Tl cA) E sz (cd_pic cA ad ca0 σ0) [.ref (ad 3 0)]) (hp_Qv D vwCl (hp_Tl cA) sz (cd_pic cA ad ca0 σ0) (fun u => ∃ ca1, cd_inj ad ca1 ∧ u = cd_pic cA ad ca1 p.2)) 0 0 (hp_A (cd_pic cA ad ca0 σ0) sz) := by
  refine hp_ofW (cc := cX3_clear) (maxL := 1) (ret := none) (by decide) rfl (Nat.le_of_ble_eq_true rfl) ?_
  intro pp ee ss mm bb mt cd ls cx hsz hw hl
  have hl : lv_has ls 1 [(0, .ref (ad 3 0))] := hl
  refine lv_aload_n cx.1 cx.2.1 dX3_clear_0 rfl (lv_at hl 0 rfl) ?_
  refine lv_iconst (v := 0) cx.1 cx.2.1 dX3_clear_1 (by decide) ?_
  obtain ⟨σ1, e_σ1, h⟩ := md_ob h
  refine cd_pI (o := 3) (k := 10) (f := 106) hj cx hw hic3 rfl ⟨by decide, rfl, by decide, rfl⟩ tyX3_ok nmX3 rfl (by decide) rfl (List.mem_cons_of_mem _ cm_327) rfl e_σ1 dX3_clear_2 (fun H locs hw => ?_)
  refine lv_aload_n cx.1 cx.2.1 dX3_clear_5 rfl (lv_at hl 0 rfl) ?_
  refine lv_iconst (v := 0) cx.1 cx.2.1 dX3_clear_6 (by decide) ?_
  obtain ⟨σ2, e_σ2, h⟩ := md_ob h
  refine cd_pI (o := 3) (k := 11) (f := 107) hj cx hw hic3 rfl ⟨by decide, rfl, by decide, rfl⟩ tyX3_ok nmX3 rfl (by decide) rfl (List.mem_cons_of_mem _ cm_336) rfl e_σ2 dX3_clear_7 (fun H locs hw => ?_)
  refine lv_aload_n cx.1 cx.2.1 dX3_clear_10 rfl (lv_at hl 0 rfl) ?_
  refine lv_iconst (v := 0) cx.1 cx.2.1 dX3_clear_11 (by decide) ?_
  obtain ⟨σ3, e_σ3, h⟩ := md_ob h
  refine cd_pI (o := 3) (k := 12) (f := 108) hj cx hw hic3 rfl ⟨by decide, rfl, by decide, rfl⟩ tyX3_ok nmX3 rfl (by decide) rfl (List.mem_cons_of_mem _ cm_334) rfl e_σ3 dX3_clear_12 (fun H locs hw => ?_)
  refine lv_aload_n cx.1 cx.2.1 dX3_clear_15 rfl (lv_at hl 0 rfl) ?_
  refine lv_iconst (v := 0) cx.1 cx.2.1 dX3_clear_16 (by decide) ?_
  obtain ⟨σ4, e_σ4, h⟩ := md_ob h
  refine cd_pI (o := 3) (k := 13) (f := 109) hj cx hw hic3 rfl ⟨by decide, rfl, by decide, rfl⟩ tyX3_ok nmX3 rfl (by decide) rfl (List.mem_cons_of_mem _ cm_310) rfl e_σ4 dX3_clear_17 (fun H locs hw => ?_)
  exact hp_vret cx hw ((cd_ret hj h).2) dX3_clear_20
set_option maxHeartbeats 4000000 in
set_option maxRecDepth 100000 in
theorem kc_X2_clear (l : Launch) (D : va_G) (cA : Nat → ClassId) (E : hp_N) (sz : Nat) (ad : Nat → Nat → Nat) (ca0 : Nat → Nat) (hj : cd_inj ad ca0) (oq sgq sgv : Nat) (hE : cd_E E oq sgq sgv) (n : Nat) (σ0 : cd_S) (p : (Int32 × cd_S)) (h : f_X2_clear n σ0 = some p) : Met l yX2_clear (Cond.code yX2_clear cX2_clear 1 none :: v_CLS) ({ frames := 1, cells := 0, slots := 0, locals := 20 }) (hp_Pc D vwCl (hp_Tl cA) E sz (cd_pic cA ad ca0 σ0) [.ref (ad 2 0)]) (hp_Qv D vwCl (hp_Tl cA) sz (cd_pic cA ad ca0 σ0) (fun u => ∃ ca1, cd_inj ad ca1 ∧ u = cd_pic cA ad ca1 p.2)) 0 0 (hp_A (cd_pic cA ad ca0 σ0) sz) := by
  refine hp_ofW (cc := cX2_clear) (maxL := 1) (ret := none) (by decide) rfl (Nat.le_of_ble_eq_true rfl) ?_
  intro pp ee ss mm bb mt cd ls cx hsz hw hl
  have hl : lv_has ls 1 [(0, .ref (ad 2 0))] := hl
  refine lv_aload_n cx.1 cx.2.1 dX2_clear_0 rfl (lv_at hl 0 rfl) ?_
  refine cd_gO (o2 := 3) (e2 := 0) (o := 2) (k := 0) (f := 64) hj cx hw hic2 rfl ⟨by decide, rfl, by decide, rfl⟩ rfl (by decide) ⟨rfl, rfl⟩ (List.mem_cons_of_mem _ cm_526) dX2_clear_1 ?_
  obtain ⟨p1, e_p1, h⟩ := md_ob h
  refine hp_callVv (As := []) (rest := []) cx hw (kc_X3_clear l D cA E _ ad _ hj oq sgq sgv hE n σ0  p1 e_p1) (cwV 0 cx.2.2.2.2.2.1 (cd_giV cm_527 cm_528 cm_529 cm_332 cm_530) rfl rfl rfl hdc_X3_clear ⟨Nat.le_of_ble_eq_true rfl, Nat.le_of_ble_eq_true rfl⟩) (cd_atO hj (by decide) (by decide)) rfl rfl hl.1 rfl (Nat.le_of_ble_eq_true rfl) dX2_clear_4 ⟨Nat.le_refl _, Nat.le_refl _⟩ (fun u H locs hp hw => ?_)
  obtain ⟨ca, hj, rfl⟩ := hp
  refine lv_aload_n cx.1 cx.2.1 dX2_clear_7 rfl (lv_at hl 0 rfl) ?_
  refine lv_iconst (v := 0) cx.1 cx.2.1 dX2_clear_8 (by decide) ?_
  obtain ⟨σ2, e_σ2, h⟩ := md_ob h
  refine cd_pI (o := 2) (k := 2) (f := 66) hj cx hw hic2 rfl ⟨by decide, rfl, by decide, rfl⟩ tyX2_ok nmX2 rfl (by decide) rfl (List.mem_cons_of_mem _ cm_531) rfl e_σ2 dX2_clear_9 (fun H locs hw => ?_)
  refine lv_aload_n cx.1 cx.2.1 dX2_clear_12 rfl (lv_at hl 0 rfl) ?_
  refine lv_iconst (v := 0) cx.1 cx.2.1 dX2_clear_13 (by decide) ?_
  obtain ⟨σ3, e_σ3, h⟩ := md_ob h
  refine cd_pI (o := 2) (k := 10) (f := 74) hj cx hw hic2 rfl ⟨by decide, rfl, by decide, rfl⟩ tyX2_ok nmX2 rfl (by decide) rfl (List.mem_cons_of_mem _ cm_163) rfl e_σ3 dX2_clear_14 (fun H locs hw => ?_)
  refine lv_aload_n cx.1 cx.2.1 dX2_clear_17 rfl (lv_at hl 0 rfl) ?_
  refine lv_iconst (v := 0) cx.1 cx.2.1 dX2_clear_18 (by decide) ?_
  obtain ⟨σ4, e_σ4, h⟩ := md_ob h
  refine cd_pI (o := 2) (k := 12) (f := 76) hj cx hw hic2 rfl ⟨by decide, rfl, by decide, rfl⟩ tyX2_ok nmX2 rfl (by decide) rfl (List.mem_cons_of_mem _ cm_405) rfl e_σ4 dX2_clear_19 (fun H locs hw => ?_)
  refine lv_aload_n cx.1 cx.2.1 dX2_clear_22 rfl (lv_at hl 0 rfl) ?_
  refine lv_iconst (v := 0) cx.1 cx.2.1 dX2_clear_23 (by decide) ?_
  obtain ⟨σ5, e_σ5, h⟩ := md_ob h
  refine cd_pI (o := 2) (k := 14) (f := 78) hj cx hw hic2 rfl ⟨by decide, rfl, by decide, rfl⟩ tyX2_ok nmX2 rfl (by decide) rfl (List.mem_cons_of_mem _ cm_382) rfl e_σ5 dX2_clear_24 (fun H locs hw => ?_)
  exact hp_vret cx hw ((cd_ret hj h).2) dX2_clear_27
set_option maxHeartbeats 4000000 in
set_option maxRecDepth 100000 in
theorem kc_X3_domainOf (l : Launch) (D : va_G) (cA : Nat → ClassId) (E : hp_N) (sz : Nat) (ad : Nat → Nat → Nat) (ca0 : Nat → Nat) (hj : cd_inj ad ca0) (oq sgq sgv : Nat) (hE : cd_E E oq sgq sgv) (n : Nat) (σ0 : cd_S) (a1 : Int32) (p : (Int32 × cd_S)) (h : f_X3_domainOf n σ0 a1 = some p) : Met l yX3_domainOf (Cond.code yX3_domainOf cX3_domainOf 2 (some .int) :: v_CLS) ({ frames := 0, cells := 0, slots := 0, locals := 0 }) (hp_Pc D vwCl (hp_Tl cA) E sz (cd_pic cA ad ca0 σ0) [.ref (ad 3 0), .int a1]) (hp_Qi D vwCl (hp_Tl cA) sz (cd_pic cA ad ca0 σ0) (fun r u => r = p.1 ∧ ∃ ca1, cd_inj ad ca1 ∧ u = cd_pic cA ad ca1 p.2)) 0 0 (hp_A (cd_pic cA ad ca0 σ0) sz) := by
  refine hp_ofW (cc := cX3_domainOf) (maxL := 2) (ret := (some .int)) (by decide) rfl (Nat.le_of_ble_eq_true rfl) ?_
  intro pp ee ss mm bb mt cd ls cx hsz hw hl
  have hl : lv_has ls 2 [(0, .ref (ad 3 0)), (1, .int a1)] := hl
  refine lv_iload_n cx.1 cx.2.1 dX3_domainOf_0 rfl (lv_at hl 1 rfl) ?_
  refine lv_if_lt (tgt := 19) cx.1 cx.2.1 dX3_domainOf_1 (by decide) (fun c1 => ?_) (fun c1 => ?_)
  · have h := md_ip c1 h
    refine lv_iconst (v := 0) cx.1 cx.2.1 dX3_domainOf_19 (by decide) ?_
    exact hp_iret cx hw (cd_ret hj h) dX3_domainOf_20
  · have h := md_in c1 h
    refine lv_iload_n cx.1 cx.2.1 dX3_domainOf_4 rfl (lv_at hl 1 rfl) ?_
    refine lv_bipush (v := 8) cx.1 cx.2.1 dX3_domainOf_5 (by decide) ?_
    refine lv_icmp_ge (tgt := 19) cx.1 cx.2.1 dX3_domainOf_7 (by decide) (fun c7 => ?_) (fun c7 => ?_)
    · have h := md_ip c7 h
      refine lv_iconst (v := 0) cx.1 cx.2.1 dX3_domainOf_19 (by decide) ?_
      exact hp_iret cx hw (cd_ret hj h) dX3_domainOf_20
    · have h := md_in c7 h
      refine lv_aload_n cx.1 cx.2.1 dX3_domainOf_10 rfl (lv_at hl 0 rfl) ?_
      refine cd_gA (o := 3) (k := 5) (f := 101) hj cx hw hic3 rfl ⟨by decide, rfl, by decide, rfl⟩ rfl (by decide) (List.mem_cons_of_mem _ cm_532) dX3_domainOf_11 ?_
      refine lv_iload_n cx.1 cx.2.1 dX3_domainOf_14 rfl (lv_at hl 1 rfl) ?_
      obtain ⟨v1, e_v1, h⟩ := md_ob h
      refine cd_lI (f := 101) hj cx hw (by decide) (by decide) rfl e_v1 dX3_domainOf_15 ?_
      refine lv_goto (tgt := 20) cx.1 cx.2.1 dX3_domainOf_16 (by decide) ?_
      exact hp_iret cx hw (cd_ret hj h) dX3_domainOf_20
set_option maxHeartbeats 4000000 in
set_option maxRecDepth 100000 in
theorem kc_X9_open (l : Launch) (D : va_G) (cA : Nat → ClassId) (E : hp_N) (sz : Nat) (ad : Nat → Nat → Nat) (ca0 : Nat → Nat) (hj : cd_inj ad ca0) (oq sgq sgv : Nat) (hE : cd_E E oq sgq sgv) (n : Nat) (σ0 : cd_S) (a0 : Nat) (a1 : Int32) (a2 : Int32) (a3 : Int32) (a4 : Int32) (hb_a0 : a0 < 60) (p : (Int32 × cd_S)) (h : f_X9_open n σ0 a0 a1 a2 a3 a4 = some p) : Met l yX9_open (Cond.code yX9_open cX9_open 5 none :: v_CLS) ({ frames := 0, cells := 0, slots := 0, locals := 0 }) (hp_Pc D vwCl (hp_Tl cA) E sz (cd_pic cA ad ca0 σ0) [.ref (ad 9 a0), .int a1, .int a2, .int a3, .int a4]) (hp_Qv D vwCl (hp_Tl cA) sz (cd_pic cA ad ca0 σ0) (fun u => ∃ ca1, cd_inj ad ca1 ∧ u = cd_pic cA ad ca1 p.2)) 0 0 (hp_A (cd_pic cA ad ca0 σ0) sz) := by
  refine hp_ofW (cc := cX9_open) (maxL := 5) (ret := none) (by decide) rfl (Nat.le_of_ble_eq_true rfl) ?_
  intro pp ee ss mm bb mt cd ls cx hsz hw hl
  have hl : lv_has ls 5 [(0, .ref (ad 9 a0)), (1, .int a1), (2, .int a2), (3, .int a3), (4, .int a4)] := hl
  have J51 : ∀ (ca : Nat → Nat) (hj : cd_inj ad ca) (σ : cd_S) (t0 : Int32) (H : Heap) (locs : List Loc) (ls : Array Slot), f_X9_open_J51 n a0 σ t0 = some p → hp_w D vwCl (hp_Tl cA) E (hp_A (cd_pic cA ad ca0 σ0) sz) ss H locs (cd_pic cA ad ca σ) → lv_has ls 5 [(0, .ref (ad 9 a0))] → W pp l ee ({ frames := 0, cells := 0, slots := 0, locals := 0 }) ss mm [.ref (ad 9 a0), .int a1, .int a2, .int a3, .int a4].toArray bb mt cd H locs 0 0 (MQ bb (hp_Qv D vwCl (hp_Tl cA) sz (cd_pic cA ad ca0 σ0) (fun u => ∃ ca1, cd_inj ad ca1 ∧ u = cd_pic cA ad ca1 p.2)) [.ref (ad 9 a0), .int a1, .int a2, .int a3, .int a4].toArray ss 0 0 (hp_A (cd_pic cA ad ca0 σ0) sz)) (F0 mm 51 ls [.int t0, .ref (ad 9 a0)]) := by
    intro ca hj σ t0 H locs ls h hw hl
    obtain ⟨σ1, e_σ1, h⟩ := md_ob h
    refine cd_pI (o := 9) (k := 10) (f := 298) hj cx hw hic9 rfl ⟨by decide, rfl, by decide, rfl⟩ tyX9_ok nmX9 rfl (show _ < 60 by omega) rfl (List.mem_cons_of_mem _ cm_98) rfl e_σ1 dX9_open_51 (fun H locs hw => ?_)
    refine lv_aload_n cx.1 cx.2.1 dX9_open_54 rfl (lv_at hl 0 rfl) ?_
    refine lv_iconst (v := 0) cx.1 cx.2.1 dX9_open_55 (by decide) ?_
    obtain ⟨σ2, e_σ2, h⟩ := md_ob h
    refine cd_pI (o := 9) (k := 11) (f := 299) hj cx hw hic9 rfl ⟨by decide, rfl, by decide, rfl⟩ tyX9_ok nmX9 rfl (show _ < 60 by omega) rfl (List.mem_cons_of_mem _ cm_97) rfl e_σ2 dX9_open_56 (fun H locs hw => ?_)
    refine lv_aload_n cx.1 cx.2.1 dX9_open_59 rfl (lv_at hl 0 rfl) ?_
    refine lv_iconst (v := 0) cx.1 cx.2.1 dX9_open_60 (by decide) ?_
    obtain ⟨σ3, e_σ3, h⟩ := md_ob h
    refine cd_pZ (o := 9) (k := 13) (f := 301) hj cx hw hic9 rfl ⟨by decide, rfl, by decide, rfl⟩ tyX9_ok nmX9 rfl (show _ < 60 by omega) rfl (List.mem_cons_of_mem _ cm_541) rfl (by decide) e_σ3 dX9_open_61 (fun H locs hw => ?_)
    refine lv_aload_n cx.1 cx.2.1 dX9_open_64 rfl (lv_at hl 0 rfl) ?_
    refine lv_iconst (v := 0) cx.1 cx.2.1 dX9_open_65 (by decide) ?_
    obtain ⟨σ4, e_σ4, h⟩ := md_ob h
    refine cd_pI (o := 9) (k := 14) (f := 302) hj cx hw hic9 rfl ⟨by decide, rfl, by decide, rfl⟩ tyX9_ok nmX9 rfl (show _ < 60 by omega) rfl (List.mem_cons_of_mem _ cm_542) rfl e_σ4 dX9_open_66 (fun H locs hw => ?_)
    refine lv_aload_n cx.1 cx.2.1 dX9_open_69 rfl (lv_at hl 0 rfl) ?_
    refine cd_gO (o2 := 6) (e2 := (17 + 3 * a0)) (o := 9) (k := 15) (f := 303) hj cx hw hic9 rfl ⟨by decide, rfl, by decide, rfl⟩ rfl (show _ < 60 by omega) ⟨rfl, rfl⟩ (List.mem_cons_of_mem _ cm_543) dX9_open_70 ?_
    refine lv_iconst (v := 0) cx.1 cx.2.1 dX9_open_73 (by decide) ?_
    obtain ⟨σ5, e_σ5, h⟩ := md_ob h
    refine cd_pI (o := 6) (k := 1) (f := 193) hj cx hw hic6 rfl ⟨by decide, rfl, by decide, rfl⟩ tyX6_ok nmX6 rfl (show _ < 197 by omega) rfl (List.mem_cons_of_mem _ cm_544) rfl e_σ5 dX9_open_74 (fun H locs hw => ?_)
    exact hp_vret cx hw ((cd_ret hj h).2) dX9_open_77
  refine lv_aload_n cx.1 cx.2.1 dX9_open_0 rfl (lv_at hl 0 rfl) ?_
  refine lv_iload_n cx.1 cx.2.1 dX9_open_1 rfl (lv_at hl 1 rfl) ?_
  obtain ⟨σ6, e_σ6, h⟩ := md_ob h
  refine cd_pI (o := 9) (k := 0) (f := 288) hj cx hw hic9 rfl ⟨by decide, rfl, by decide, rfl⟩ tyX9_ok nmX9 rfl (show _ < 60 by omega) rfl (List.mem_cons_of_mem _ cm_533) rfl e_σ6 dX9_open_2 (fun H locs hw => ?_)
  refine lv_aload_n cx.1 cx.2.1 dX9_open_5 rfl (lv_at hl 0 rfl) ?_
  refine lv_iload_n cx.1 cx.2.1 dX9_open_6 rfl (lv_at hl 2 rfl) ?_
  obtain ⟨σ7, e_σ7, h⟩ := md_ob h
  refine cd_pI (o := 9) (k := 1) (f := 289) hj cx hw hic9 rfl ⟨by decide, rfl, by decide, rfl⟩ tyX9_ok nmX9 rfl (show _ < 60 by omega) rfl (List.mem_cons_of_mem _ cm_534) rfl e_σ7 dX9_open_7 (fun H locs hw => ?_)
  refine lv_aload_n cx.1 cx.2.1 dX9_open_10 rfl (lv_at hl 0 rfl) ?_
  refine lv_iload_n cx.1 cx.2.1 dX9_open_11 rfl (lv_at hl 3 rfl) ?_
  obtain ⟨σ8, e_σ8, h⟩ := md_ob h
  refine cd_pI (o := 9) (k := 2) (f := 290) hj cx hw hic9 rfl ⟨by decide, rfl, by decide, rfl⟩ tyX9_ok nmX9 rfl (show _ < 60 by omega) rfl (List.mem_cons_of_mem _ cm_535) rfl e_σ8 dX9_open_12 (fun H locs hw => ?_)
  refine lv_aload_n cx.1 cx.2.1 dX9_open_15 rfl (lv_at hl 0 rfl) ?_
  refine lv_iload cx.1 cx.2.1 dX9_open_16 (lv_at hl 4 rfl) ?_
  obtain ⟨σ9, e_σ9, h⟩ := md_ob h
  refine cd_pI (o := 9) (k := 4) (f := 292) hj cx hw hic9 rfl ⟨by decide, rfl, by decide, rfl⟩ tyX9_ok nmX9 rfl (show _ < 60 by omega) rfl (List.mem_cons_of_mem _ cm_536) rfl e_σ9 dX9_open_18 (fun H locs hw => ?_)
  refine lv_aload_n cx.1 cx.2.1 dX9_open_21 rfl (lv_at hl 0 rfl) ?_
  refine lv_lconst (v := 0) cx.1 cx.2.1 dX9_open_22 (by decide) ?_
  obtain ⟨σ10, e_σ10, h⟩ := md_ob h
  refine cd_pJ (o := 9) (k := 5) (f := 293) hj cx hw hic9 rfl ⟨by decide, rfl, by decide, rfl⟩ tyX9_ok nmX9 rfl (show _ < 60 by omega) rfl (List.mem_cons_of_mem _ cm_537) rfl e_σ10 dX9_open_23 (fun H locs hw => ?_)
  refine lv_aload_n cx.1 cx.2.1 dX9_open_26 rfl (lv_at hl 0 rfl) ?_
  refine lv_iconst (v := 0) cx.1 cx.2.1 dX9_open_27 (by decide) ?_
  obtain ⟨σ11, e_σ11, h⟩ := md_ob h
  refine cd_pI (o := 9) (k := 6) (f := 294) hj cx hw hic9 rfl ⟨by decide, rfl, by decide, rfl⟩ tyX9_ok nmX9 rfl (show _ < 60 by omega) rfl (List.mem_cons_of_mem _ cm_538) rfl e_σ11 dX9_open_28 (fun H locs hw => ?_)
  refine lv_aload_n cx.1 cx.2.1 dX9_open_31 rfl (lv_at hl 0 rfl) ?_
  refine lv_iconst (v := (-1)) cx.1 cx.2.1 dX9_open_32 (by decide) ?_
  obtain ⟨σ12, e_σ12, h⟩ := md_ob h
  refine cd_pI (o := 9) (k := 8) (f := 296) hj cx hw hic9 rfl ⟨by decide, rfl, by decide, rfl⟩ tyX9_ok nmX9 rfl (show _ < 60 by omega) rfl (List.mem_cons_of_mem _ cm_539) rfl e_σ12 dX9_open_33 (fun H locs hw => ?_)
  refine lv_aload_n cx.1 cx.2.1 dX9_open_36 rfl (lv_at hl 0 rfl) ?_
  refine lv_iload_n cx.1 cx.2.1 dX9_open_37 rfl (lv_at hl 1 rfl) ?_
  obtain ⟨σ13, e_σ13, h⟩ := md_ob h
  refine cd_pI (o := 9) (k := 9) (f := 297) hj cx hw hic9 rfl ⟨by decide, rfl, by decide, rfl⟩ tyX9_ok nmX9 rfl (show _ < 60 by omega) rfl (List.mem_cons_of_mem _ cm_540) rfl e_σ13 dX9_open_38 (fun H locs hw => ?_)
  refine lv_aload_n cx.1 cx.2.1 dX9_open_41 rfl (lv_at hl 0 rfl) ?_
  refine lv_iload_n cx.1 cx.2.1 dX9_open_42 rfl (lv_at hl 2 rfl) ?_
  refine lv_if_ne (tgt := 50) cx.1 cx.2.1 dX9_open_43 (by decide) (fun c43 => ?_) (fun c43 => ?_)
  · have h := md_in c43 h
    refine lv_iconst (v := 0) cx.1 cx.2.1 dX9_open_50 (by decide) ?_
    exact J51 _ hj σ13 0 _ _ _ h hw (lv_sub hl [0] rfl)
  · have h := md_ip c43 h
    refine lv_iconst (v := 1) cx.1 cx.2.1 dX9_open_46 (by decide) ?_
    refine lv_goto (tgt := 51) cx.1 cx.2.1 dX9_open_47 (by decide) ?_
    exact J51 _ hj σ13 1 _ _ _ h hw (lv_sub hl [0] rfl)
set_option maxHeartbeats 4000000 in
set_option maxRecDepth 100000 in
theorem kc_X2_addUnit (l : Launch) (D : va_G) (cA : Nat → ClassId) (E : hp_N) (sz : Nat) (ad : Nat → Nat → Nat) (ca0 : Nat → Nat) (hj : cd_inj ad ca0) (oq sgq sgv : Nat) (hE : cd_E E oq sgq sgv) (n : Nat) (σ0 : cd_S) (a1 : Int32) (a2 : Int32) (a3 : Int32) (p : (Nat × cd_S)) (h : f_X2_addUnit n σ0 a1 a2 a3 = some p) : Met l yX2_addUnit (Cond.code yX2_addUnit cX2_addUnit 6 (some (.object "WardenHouse$Unit")) :: v_CLS) ({ frames := 1, cells := 0, slots := 0, locals := 24 }) (hp_Pc D vwCl (hp_Tl cA) E sz (cd_pic cA ad ca0 σ0) [.ref (ad 2 0), .int a1, .int a2, .int a3]) (hp_Qr D vwCl (hp_Tl cA) sz (cd_pic cA ad ca0 σ0) (fun r u => (p.1 < 60 ∧ r = ad 9 p.1) ∧ ∃ ca1, cd_inj ad ca1 ∧ u = cd_pic cA ad ca1 p.2)) 0 0 (hp_A (cd_pic cA ad ca0 σ0) sz) := by
  refine hp_ofW (cc := cX2_addUnit) (maxL := 6) (ret := (some (.object "WardenHouse$Unit"))) (by decide) rfl (Nat.le_of_ble_eq_true rfl) ?_
  intro pp ee ss mm bb mt cd ls cx hsz hw hl
  have hl : lv_has ls 6 [(0, .ref (ad 2 0)), (1, .int a1), (2, .int a2), (3, .int a3)] := hl
  have J18 : ∀ (ca : Nat → Nat) (hj : cd_inj ad ca) (σ : cd_S) (l1 : Int32) (l2 : Int32) (l3 : Int32) (t0 : Int32) (H : Heap) (locs : List Loc) (ls : Array Slot), f_X2_addUnit_J18 n σ l1 l2 l3 t0 = some p → hp_w D vwCl (hp_Tl cA) E (hp_A (cd_pic cA ad ca0 σ0) sz) ss H locs (cd_pic cA ad ca σ) → lv_has ls 6 [(0, .ref (ad 2 0)), (1, .int l1), (2, .int l2), (3, .int l3)] → W pp l ee ({ frames := 1, cells := 0, slots := 0, locals := 24 }) ss mm [.ref (ad 2 0), .int a1, .int a2, .int a3].toArray bb mt cd H locs 0 0 (MQ bb (hp_Qr D vwCl (hp_Tl cA) sz (cd_pic cA ad ca0 σ0) (fun r u => (p.1 < 60 ∧ r = ad 9 p.1) ∧ ∃ ca1, cd_inj ad ca1 ∧ u = cd_pic cA ad ca1 p.2)) [.ref (ad 2 0), .int a1, .int a2, .int a3].toArray ss 0 0 (hp_A (cd_pic cA ad ca0 σ0) sz)) (F0 mm 18 ls [.int t0]) := by
    intro ca hj σ l1 l2 l3 t0 H locs ls h hw hl
    refine lv_istore (lv' := [(4, .int t0), (0, .ref (ad 2 0)), (1, .int l1), (2, .int l2), (3, .int l3)]) cx.1 cx.2.1 dX2_addUnit_18 hl (by decide) rfl (fun ls hl => ?_)
    refine lv_aload_n cx.1 cx.2.1 dX2_addUnit_20 rfl (lv_at hl 1 rfl) ?_
    refine cd_gA (o := 2) (k := 1) (f := 65) hj cx hw hic2 rfl ⟨by decide, rfl, by decide, rfl⟩ rfl (by decide) (List.mem_cons_of_mem _ cm_274) dX2_addUnit_21 ?_
    refine lv_iload cx.1 cx.2.1 dX2_addUnit_24 (lv_at hl 0 rfl) ?_
    obtain ⟨u1, e_u1, h⟩ := md_ob h
    have hb_u1 : u1 < 60 := (cd_ldRs e_u1).2.2
    refine cd_lR (f := 65) (o2 := 9) hj cx hw (by decide) (by decide) rfl (by decide) rfl rfl e_u1 dX2_addUnit_26 ?_
    refine lv_astore (lv' := [(5, .ref (ad 9 u1)), (4, .int t0), (0, .ref (ad 2 0)), (1, .int l1), (2, .int l2), (3, .int l3)]) cx.1 cx.2.1 dX2_addUnit_27 hl (by decide) rfl (fun ls hl => ?_)
    refine lv_aload cx.1 cx.2.1 dX2_addUnit_29 (lv_at hl 0 rfl) ?_
    refine lv_iload cx.1 cx.2.1 dX2_addUnit_31 (lv_at hl 1 rfl) ?_
    refine lv_iload_n cx.1 cx.2.1 dX2_addUnit_33 rfl (lv_at hl 3 rfl) ?_
    refine lv_iload_n cx.1 cx.2.1 dX2_addUnit_34 rfl (lv_at hl 4 rfl) ?_
    refine lv_iload_n cx.1 cx.2.1 dX2_addUnit_35 rfl (lv_at hl 5 rfl) ?_
    obtain ⟨p2, e_p2, h⟩ := md_ob h
    refine hp_callVv (As := [.int t0, .int l1, .int l2, .int l3]) (rest := []) cx hw (kc_X9_open l D cA E _ ad _ hj oq sgq sgv hE n σ u1 t0 l1 l2 l3 (show _ < 60 by omega) p2 e_p2) (cwV 4 cx.2.2.2.2.2.1 (cd_giV cm_545 cm_546 cm_547 cm_114 cm_548) rfl rfl rfl hdc_X9_open ⟨Nat.le_of_ble_eq_true rfl, Nat.le_of_ble_eq_true rfl⟩) (cd_atO hj (by decide) (show _ < 60 by omega)) rfl rfl hl.1 rfl (Nat.le_of_ble_eq_true rfl) dX2_addUnit_36 ⟨Nat.le_refl _, Nat.le_refl _⟩ (fun u H locs hp hw => ?_)
    obtain ⟨ca, hj, rfl⟩ := hp
    refine lv_aload cx.1 cx.2.1 dX2_addUnit_39 (lv_at hl 0 rfl) ?_
    refine lv_aload_n cx.1 cx.2.1 dX2_addUnit_41 rfl (lv_at hl 2 rfl) ?_
    refine cd_gO (o2 := 3) (e2 := 0) (o := 2) (k := 0) (f := 64) hj cx hw hic2 rfl ⟨by decide, rfl, by decide, rfl⟩ rfl (by decide) ⟨rfl, rfl⟩ (List.mem_cons_of_mem _ cm_526) dX2_addUnit_42 ?_
    refine lv_iload_n cx.1 cx.2.1 dX2_addUnit_45 rfl (lv_at hl 4 rfl) ?_
    obtain ⟨p3, e_p3, h⟩ := md_ob h
    refine hp_callVi (As := [.int l2]) (rest := [.ref (ad 9 u1)]) cx hw (kc_X3_domainOf l D cA E _ ad _ hj oq sgq sgv hE n p2.2 l2 p3 e_p3) (cwV 1 cx.2.2.2.2.2.1 (cd_giV cm_549 cm_550 cm_551 cm_332 cm_552) rfl rfl rfl hdc_X3_domainOf ⟨Nat.le_of_ble_eq_true rfl, Nat.le_of_ble_eq_true rfl⟩) (cd_atO hj (by decide) (by decide)) rfl rfl hl.1 rfl (Nat.le_of_ble_eq_true rfl) dX2_addUnit_46 ⟨Nat.le_refl _, Nat.le_refl _⟩ (fun r u H locs hp hw => ?_)
    obtain ⟨rfl, ca, hj, rfl⟩ := hp
    obtain ⟨σ4, e_σ4, h⟩ := md_ob h
    refine cd_pI (o := 9) (k := 3) (f := 291) hj cx hw hic9 rfl ⟨by decide, rfl, by decide, rfl⟩ tyX9_ok nmX9 rfl (show _ < 60 by omega) rfl (List.mem_cons_of_mem _ cm_553) rfl e_σ4 dX2_addUnit_49 (fun H locs hw => ?_)
    refine lv_aload_n cx.1 cx.2.1 dX2_addUnit_52 rfl (lv_at hl 2 rfl) ?_
    refine lv_iload cx.1 cx.2.1 dX2_addUnit_53 (lv_at hl 1 rfl) ?_
    refine lv_iconst (v := 1) cx.1 cx.2.1 dX2_addUnit_55 (by decide) ?_
    refine lv_iadd cx.1 cx.2.1 dX2_addUnit_56 ?_
    obtain ⟨σ5, e_σ5, h⟩ := md_ob h
    refine cd_pI (o := 2) (k := 2) (f := 66) hj cx hw hic2 rfl ⟨by decide, rfl, by decide, rfl⟩ tyX2_ok nmX2 rfl (by decide) rfl (List.mem_cons_of_mem _ cm_531) rfl e_σ5 dX2_addUnit_57 (fun H locs hw => ?_)
    refine lv_aload cx.1 cx.2.1 dX2_addUnit_60 (lv_at hl 0 rfl) ?_
    exact hp_aret cx hw (cd_ra (cd_ret hj h) (by omega)) (Or.inl ⟨_, rfl⟩) dX2_addUnit_62
  refine lv_aload_n cx.1 cx.2.1 dX2_addUnit_0 rfl (lv_at hl 0 rfl) ?_
  refine cd_gI (o := 2) (k := 2) (f := 66) hj cx hw hic2 rfl ⟨by decide, rfl, by decide, rfl⟩ rfl (by decide) (List.mem_cons_of_mem _ cm_531) dX2_addUnit_1 ?_
  refine lv_bipush (v := 60) cx.1 cx.2.1 dX2_addUnit_4 (by decide) ?_
  refine lv_icmp_ge (tgt := 16) cx.1 cx.2.1 dX2_addUnit_6 (by decide) (fun c6 => ?_) (fun c6 => ?_)
  · have h := md_ip c6 h
    refine lv_bipush (v := 59) cx.1 cx.2.1 dX2_addUnit_16 (by decide) ?_
    exact J18 _ hj σ0 a1 a2 a3 59 _ _ _ h hw (lv_sub hl [0, 1, 2, 3] rfl)
  · have h := md_in c6 h
    refine lv_aload_n cx.1 cx.2.1 dX2_addUnit_9 rfl (lv_at hl 0 rfl) ?_
    refine cd_gI (o := 2) (k := 2) (f := 66) hj cx hw hic2 rfl ⟨by decide, rfl, by decide, rfl⟩ rfl (by decide) (List.mem_cons_of_mem _ cm_531) dX2_addUnit_10 ?_
    refine lv_goto (tgt := 18) cx.1 cx.2.1 dX2_addUnit_13 (by decide) ?_
    exact J18 _ hj σ0 a1 a2 a3 ((cI σ0 66 0)) _ _ _ h hw (lv_sub hl [0, 1, 2, 3] rfl)
set_option maxHeartbeats 4000000 in
set_option maxRecDepth 100000 in
theorem kc_X2_addModule (l : Launch) (D : va_G) (cA : Nat → ClassId) (E : hp_N) (sz : Nat) (ad : Nat → Nat → Nat) (ca0 : Nat → Nat) (hj : cd_inj ad ca0) (oq sgq sgv : Nat) (hE : cd_E E oq sgq sgv) (n : Nat) (σ0 : cd_S) (a1 : Int64) (p : (Int32 × cd_S)) (h : f_X2_addModule n σ0 a1 = some p) : Met l yX2_addModule (Cond.code yX2_addModule cX2_addModule 4 (some .int) :: v_CLS) ({ frames := 0, cells := 0, slots := 0, locals := 0 }) (hp_Pc D vwCl (hp_Tl cA) E sz (cd_pic cA ad ca0 σ0) [.ref (ad 2 0), .long a1]) (hp_Qi D vwCl (hp_Tl cA) sz (cd_pic cA ad ca0 σ0) (fun r u => r = p.1 ∧ ∃ ca1, cd_inj ad ca1 ∧ u = cd_pic cA ad ca1 p.2)) 0 0 (hp_A (cd_pic cA ad ca0 σ0) sz) := by
  refine hp_ofW (cc := cX2_addModule) (maxL := 4) (ret := (some .int)) (by decide) rfl (Nat.le_of_ble_eq_true rfl) ?_
  intro pp ee ss mm bb mt cd ls cx hsz hw hl
  have hl : lv_has ls 4 [(0, .ref (ad 2 0)), (1, .long a1)] := hl
  have J18 : ∀ (ca : Nat → Nat) (hj : cd_inj ad ca) (σ : cd_S) (l1 : Int64) (t0 : Int32) (H : Heap) (locs : List Loc) (ls : Array Slot), f_X2_addModule_J18 n σ l1 t0 = some p → hp_w D vwCl (hp_Tl cA) E (hp_A (cd_pic cA ad ca0 σ0) sz) ss H locs (cd_pic cA ad ca σ) → lv_has ls 4 [(0, .ref (ad 2 0)), (1, .long l1)] → W pp l ee ({ frames := 0, cells := 0, slots := 0, locals := 0 }) ss mm [.ref (ad 2 0), .long a1].toArray bb mt cd H locs 0 0 (MQ bb (hp_Qi D vwCl (hp_Tl cA) sz (cd_pic cA ad ca0 σ0) (fun r u => r = p.1 ∧ ∃ ca1, cd_inj ad ca1 ∧ u = cd_pic cA ad ca1 p.2)) [.ref (ad 2 0), .long a1].toArray ss 0 0 (hp_A (cd_pic cA ad ca0 σ0) sz)) (F0 mm 18 ls [.int t0]) := by
    intro ca hj σ l1 t0 H locs ls h hw hl
    refine lv_istore_n (lv' := [(3, .int t0), (0, .ref (ad 2 0)), (1, .long l1)]) cx.1 cx.2.1 dX2_addModule_18 rfl hl (by decide) rfl (fun ls hl => ?_)
    refine lv_aload_n cx.1 cx.2.1 dX2_addModule_19 rfl (lv_at hl 1 rfl) ?_
    refine cd_gA (o := 2) (k := 3) (f := 67) hj cx hw hic2 rfl ⟨by decide, rfl, by decide, rfl⟩ rfl (by decide) (List.mem_cons_of_mem _ cm_554) dX2_addModule_20 ?_
    refine lv_iload_n cx.1 cx.2.1 dX2_addModule_23 rfl (lv_at hl 0 rfl) ?_
    refine lv_lload_n cx.1 cx.2.1 dX2_addModule_24 rfl (lv_at hl 2 rfl) ?_
    obtain ⟨σ1, e_σ1, h⟩ := md_ob h
    refine cd_sJ (f := 67) hj cx hw (by decide) (by decide) rfl e_σ1 dX2_addModule_25 (fun H locs hw => ?_)
    refine lv_aload_n cx.1 cx.2.1 dX2_addModule_26 rfl (lv_at hl 1 rfl) ?_
    refine cd_gA (o := 2) (k := 4) (f := 68) hj cx hw hic2 rfl ⟨by decide, rfl, by decide, rfl⟩ rfl (by decide) (List.mem_cons_of_mem _ cm_381) dX2_addModule_27 ?_
    refine lv_iload_n cx.1 cx.2.1 dX2_addModule_30 rfl (lv_at hl 0 rfl) ?_
    refine lv_iconst (v := (-1)) cx.1 cx.2.1 dX2_addModule_31 (by decide) ?_
    obtain ⟨σ2, e_σ2, h⟩ := md_ob h
    refine cd_sI (f := 68) hj cx hw (by decide) (by decide) rfl e_σ2 dX2_addModule_32 (fun H locs hw => ?_)
    refine lv_aload_n cx.1 cx.2.1 dX2_addModule_33 rfl (lv_at hl 1 rfl) ?_
    refine cd_gA (o := 2) (k := 6) (f := 70) hj cx hw hic2 rfl ⟨by decide, rfl, by decide, rfl⟩ rfl (by decide) (List.mem_cons_of_mem _ cm_170) dX2_addModule_34 ?_
    refine lv_iload_n cx.1 cx.2.1 dX2_addModule_37 rfl (lv_at hl 0 rfl) ?_
    refine lv_iconst (v := 0) cx.1 cx.2.1 dX2_addModule_38 (by decide) ?_
    obtain ⟨σ3, e_σ3, h⟩ := md_ob h
    refine cd_sI (f := 70) hj cx hw (by decide) (by decide) rfl e_σ3 dX2_addModule_39 (fun H locs hw => ?_)
    refine lv_aload_n cx.1 cx.2.1 dX2_addModule_40 rfl (lv_at hl 1 rfl) ?_
    refine cd_gA (o := 2) (k := 7) (f := 71) hj cx hw hic2 rfl ⟨by decide, rfl, by decide, rfl⟩ rfl (by decide) (List.mem_cons_of_mem _ cm_169) dX2_addModule_41 ?_
    refine lv_iload_n cx.1 cx.2.1 dX2_addModule_44 rfl (lv_at hl 0 rfl) ?_
    refine lv_iconst (v := 0) cx.1 cx.2.1 dX2_addModule_45 (by decide) ?_
    obtain ⟨σ4, e_σ4, h⟩ := md_ob h
    refine cd_sI (f := 71) hj cx hw (by decide) (by decide) rfl e_σ4 dX2_addModule_46 (fun H locs hw => ?_)
    refine lv_aload_n cx.1 cx.2.1 dX2_addModule_47 rfl (lv_at hl 1 rfl) ?_
    refine cd_gA (o := 2) (k := 9) (f := 73) hj cx hw hic2 rfl ⟨by decide, rfl, by decide, rfl⟩ rfl (by decide) (List.mem_cons_of_mem _ cm_392) dX2_addModule_48 ?_
    refine lv_iload_n cx.1 cx.2.1 dX2_addModule_51 rfl (lv_at hl 0 rfl) ?_
    refine lv_iconst (v := 0) cx.1 cx.2.1 dX2_addModule_52 (by decide) ?_
    obtain ⟨σ5, e_σ5, h⟩ := md_ob h
    refine cd_sI (f := 73) hj cx hw (by decide) (by decide) rfl e_σ5 dX2_addModule_53 (fun H locs hw => ?_)
    refine lv_aload_n cx.1 cx.2.1 dX2_addModule_54 rfl (lv_at hl 1 rfl) ?_
    refine lv_iload_n cx.1 cx.2.1 dX2_addModule_55 rfl (lv_at hl 0 rfl) ?_
    refine lv_iconst (v := 1) cx.1 cx.2.1 dX2_addModule_56 (by decide) ?_
    refine lv_iadd cx.1 cx.2.1 dX2_addModule_57 ?_
    obtain ⟨σ6, e_σ6, h⟩ := md_ob h
    refine cd_pI (o := 2) (k := 10) (f := 74) hj cx hw hic2 rfl ⟨by decide, rfl, by decide, rfl⟩ tyX2_ok nmX2 rfl (by decide) rfl (List.mem_cons_of_mem _ cm_163) rfl e_σ6 dX2_addModule_58 (fun H locs hw => ?_)
    refine lv_iload_n cx.1 cx.2.1 dX2_addModule_61 rfl (lv_at hl 0 rfl) ?_
    exact hp_iret cx hw (cd_ret hj h) dX2_addModule_62
  refine lv_aload_n cx.1 cx.2.1 dX2_addModule_0 rfl (lv_at hl 0 rfl) ?_
  refine cd_gI (o := 2) (k := 10) (f := 74) hj cx hw hic2 rfl ⟨by decide, rfl, by decide, rfl⟩ rfl (by decide) (List.mem_cons_of_mem _ cm_163) dX2_addModule_1 ?_
  refine lv_bipush (v := 8) cx.1 cx.2.1 dX2_addModule_4 (by decide) ?_
  refine lv_icmp_ge (tgt := 16) cx.1 cx.2.1 dX2_addModule_6 (by decide) (fun c6 => ?_) (fun c6 => ?_)
  · have h := md_ip c6 h
    refine lv_bipush (v := 7) cx.1 cx.2.1 dX2_addModule_16 (by decide) ?_
    exact J18 _ hj σ0 a1 7 _ _ _ h hw (lv_sub hl [0, 1] rfl)
  · have h := md_in c6 h
    refine lv_aload_n cx.1 cx.2.1 dX2_addModule_9 rfl (lv_at hl 0 rfl) ?_
    refine cd_gI (o := 2) (k := 10) (f := 74) hj cx hw hic2 rfl ⟨by decide, rfl, by decide, rfl⟩ rfl (by decide) (List.mem_cons_of_mem _ cm_163) dX2_addModule_10 ?_
    refine lv_goto (tgt := 18) cx.1 cx.2.1 dX2_addModule_13 (by decide) ?_
    exact J18 _ hj σ0 a1 ((cI σ0 74 0)) _ _ _ h hw (lv_sub hl [0, 1] rfl)
set_option maxHeartbeats 4000000 in
set_option maxRecDepth 100000 in
theorem kc_X2_findModule (l : Launch) (D : va_G) (cA : Nat → ClassId) (E : hp_N) (sz : Nat) (ad : Nat → Nat → Nat) (ca0 : Nat → Nat) (hj : cd_inj ad ca0) (oq sgq sgv : Nat) (hE : cd_E E oq sgq sgv) (n : Nat) (σ0 : cd_S) (a1 : Int64) (p : (Int32 × cd_S)) (h : f_X2_findModule n σ0 a1 = some p) : Met l yX2_findModule (Cond.code yX2_findModule cX2_findModule 4 (some .int) :: v_CLS) ({ frames := 0, cells := 0, slots := 0, locals := 0 }) (hp_Pc D vwCl (hp_Tl cA) E sz (cd_pic cA ad ca0 σ0) [.ref (ad 2 0), .long a1]) (hp_Qi D vwCl (hp_Tl cA) sz (cd_pic cA ad ca0 σ0) (fun r u => r = p.1 ∧ ∃ ca1, cd_inj ad ca1 ∧ u = cd_pic cA ad ca1 p.2)) 0 0 (hp_A (cd_pic cA ad ca0 σ0) sz) := by
  refine hp_ofW (cc := cX2_findModule) (maxL := 4) (ret := (some .int)) (by decide) rfl (Nat.le_of_ble_eq_true rfl) ?_
  intro pp ee ss mm bb mt cd ls cx hsz hw hl
  have hl : lv_has ls 4 [(0, .ref (ad 2 0)), (1, .long a1)] := hl
  refine lv_iconst (v := 0) cx.1 cx.2.1 dX2_findModule_0 (by decide) ?_
  refine lv_istore_n (lv' := [(3, .int 0), (0, .ref (ad 2 0)), (1, .long a1)]) cx.1 cx.2.1 dX2_findModule_1 rfl hl (by decide) rfl (fun ls hl => ?_)
  have L2 : ∀ (j : Nat) (ca : Nat → Nat) (hj : cd_inj ad ca) (σ : cd_S) (l1 : Int64) (l3 : Int32) (q : ((Int32 × cd_S) ⊕ (cd_S × Int32))) (H : Heap) (locs : List Loc) (ls : Array Slot), f_X2_findModule_L2 n l1 j σ l3 = some q → hp_w D vwCl (hp_Tl cA) E (hp_A (cd_pic cA ad ca0 σ0) sz) ss H locs (cd_pic cA ad ca σ) → lv_has ls 4 [(0, .ref (ad 2 0)), (1, .long l1), (3, .int l3)] → (∀ t, q = Sum.inr t → (∀ (ca : Nat → Nat) (hj : cd_inj ad ca) (H : Heap) (locs : List Loc) (ls : Array Slot), hp_w D vwCl (hp_Tl cA) E (hp_A (cd_pic cA ad ca0 σ0) sz) ss H locs (cd_pic cA ad ca t.1) → lv_has ls 4 [] → W pp l ee ({ frames := 0, cells := 0, slots := 0, locals := 0 }) ss mm [.ref (ad 2 0), .long a1].toArray bb mt cd H locs 0 0 (MQ bb (hp_Qi D vwCl (hp_Tl cA) sz (cd_pic cA ad ca0 σ0) (fun r u => r = p.1 ∧ ∃ ca1, cd_inj ad ca1 ∧ u = cd_pic cA ad ca1 p.2)) [.ref (ad 2 0), .long a1].toArray ss 0 0 (hp_A (cd_pic cA ad ca0 σ0) sz)) (F0 mm 29 ls []))) → (∀ r, q = Sum.inl r → r = p) → W pp l ee ({ frames := 0, cells := 0, slots := 0, locals := 0 }) ss mm [.ref (ad 2 0), .long a1].toArray bb mt cd H locs 0 0 (MQ bb (hp_Qi D vwCl (hp_Tl cA) sz (cd_pic cA ad ca0 σ0) (fun r u => r = p.1 ∧ ∃ ca1, cd_inj ad ca1 ∧ u = cd_pic cA ad ca1 p.2)) [.ref (ad 2 0), .long a1].toArray ss 0 0 (hp_A (cd_pic cA ad ca0 σ0) sz)) (F0 mm 2 ls []) := by
    intro j
    induction j with
    | zero => intro ca hj σ l1 l3 q H locs ls h; exact nomatch h
    | succ j ih =>
      intro ca hj σ l1 l3 q H locs ls h hw hl K KR
      unfold f_X2_findModule_L2 at h
      refine lv_iload_n cx.1 cx.2.1 dX2_findModule_2 rfl (lv_at hl 2 rfl) ?_
      refine lv_aload_n cx.1 cx.2.1 dX2_findModule_3 rfl (lv_at hl 0 rfl) ?_
      refine cd_gI (o := 2) (k := 10) (f := 74) hj cx hw hic2 rfl ⟨by decide, rfl, by decide, rfl⟩ rfl (by decide) (List.mem_cons_of_mem _ cm_163) dX2_findModule_4 ?_
      refine lv_icmp_ge (tgt := 29) cx.1 cx.2.1 dX2_findModule_7 (by decide) (fun c7 => ?_) (fun c7 => ?_)
      · have h := md_ip c7 h
        exact K _ (Option.some.inj h).symm _ hj _ _ _ hw (lv_sub hl [] rfl)
      · have h := md_in c7 h
        refine lv_aload_n cx.1 cx.2.1 dX2_findModule_10 rfl (lv_at hl 0 rfl) ?_
        refine cd_gA (o := 2) (k := 3) (f := 67) hj cx hw hic2 rfl ⟨by decide, rfl, by decide, rfl⟩ rfl (by decide) (List.mem_cons_of_mem _ cm_554) dX2_findModule_11 ?_
        refine lv_iload_n cx.1 cx.2.1 dX2_findModule_14 rfl (lv_at hl 2 rfl) ?_
        obtain ⟨v1, e_v1, h⟩ := md_ob h
        refine cd_lJ (f := 67) hj cx hw (by decide) (by decide) rfl e_v1 dX2_findModule_15 ?_
        refine lv_lload_n cx.1 cx.2.1 dX2_findModule_16 rfl (lv_at hl 1 rfl) ?_
        refine W.lcmp cx.1 cx.2.1 dX2_findModule_17 ?_
        refine lv_if_ne (tgt := 23) cx.1 cx.2.1 dX2_findModule_18 (by decide) (fun c18 => ?_) (fun c18 => ?_)
        · have h := md_in c18 h
          refine lv_iinc (v := (l3 + 1)) (lv' := [(3, .int (l3 + 1)), (0, .ref (ad 2 0)), (1, .long l1)]) cx.1 cx.2.1 dX2_findModule_23 hl (k := 2) rfl rfl (by decide) rfl (fun ls hl => ?_)
          refine lv_goto (tgt := 2) cx.1 cx.2.1 dX2_findModule_26 (by decide) ?_
          exact ih _ hj σ l1 ((l3 + 1)) q _ _ _ h hw (lv_sub hl [1, 2, 0] rfl) K KR
        · have h := md_ip c18 h
          refine lv_iload_n cx.1 cx.2.1 dX2_findModule_21 rfl (lv_at hl 2 rfl) ?_
          exact hp_iret cx hw (cd_ret hj (congrArg some (KR _ (Option.some.inj h).symm))) dX2_findModule_22
  obtain ⟨q2, e_q2, h⟩ := md_ob h
  refine L2 n _ hj σ0 a1 0 q2 _ _ _ e_q2 hw (lv_sub hl [1, 2, 0] rfl) (fun t2 hq2 ca hj H locs ls hw hl => ?_) (fun r hr => by subst hr; exact Option.some.inj h)
  subst hq2
  have h := md_inr h
  refine lv_iconst (v := (-1)) cx.1 cx.2.1 dX2_findModule_29 (by decide) ?_
  exact hp_iret cx hw (cd_ret hj h) dX2_findModule_30
set_option maxHeartbeats 4000000 in
set_option maxRecDepth 100000 in
theorem kc_X2_setSuper (l : Launch) (D : va_G) (cA : Nat → ClassId) (E : hp_N) (sz : Nat) (ad : Nat → Nat → Nat) (ca0 : Nat → Nat) (hj : cd_inj ad ca0) (oq sgq sgv : Nat) (hE : cd_E E oq sgq sgv) (n : Nat) (σ0 : cd_S) (a1 : Int32) (a2 : Int32) (p : (Int32 × cd_S)) (h : f_X2_setSuper n σ0 a1 a2 = some p) : Met l yX2_setSuper (Cond.code yX2_setSuper cX2_setSuper 3 none :: v_CLS) ({ frames := 2, cells := 0, slots := 0, locals := 42 }) (hp_Pc D vwCl (hp_Tl cA) E sz (cd_pic cA ad ca0 σ0) [.ref (ad 2 0), .int a1, .int a2]) (hp_Qv D vwCl (hp_Tl cA) sz (cd_pic cA ad ca0 σ0) (fun u => ∃ ca1, cd_inj ad ca1 ∧ u = cd_pic cA ad ca1 p.2)) 0 0 (hp_A (cd_pic cA ad ca0 σ0) sz) := by
  refine hp_ofW (cc := cX2_setSuper) (maxL := 3) (ret := none) (by decide) rfl (Nat.le_of_ble_eq_true rfl) ?_
  intro pp ee ss mm bb mt cd ls cx hsz hw hl
  have hl : lv_has ls 3 [(0, .ref (ad 2 0)), (1, .int a1), (2, .int a2)] := hl
  refine lv_aload_n cx.1 cx.2.1 dX2_setSuper_0 rfl (lv_at hl 0 rfl) ?_
  refine lv_iload_n cx.1 cx.2.1 dX2_setSuper_1 rfl (lv_at hl 1 rfl) ?_
  obtain ⟨p1, e_p1, h⟩ := md_ob h
  refine hp_callVi (As := [.int a1]) (rest := []) cx hw (kc_X2_isModule l D cA E _ ad _ hj oq sgq sgv hE n σ0 a1 p1 e_p1) (cwV 1 cx.2.2.2.2.2.1 (cd_giV cm_164 cm_165 cm_166 cm_167 cm_168) rfl rfl rfl hdc_X2_isModule ⟨Nat.le_of_ble_eq_true rfl, Nat.le_of_ble_eq_true rfl⟩) (cd_atO hj (by decide) (by decide)) rfl rfl hl.1 rfl (Nat.le_of_ble_eq_true rfl) dX2_setSuper_2 ⟨Nat.le_refl _, Nat.le_refl _⟩ (fun r u H locs hp hw => ?_)
  obtain ⟨rfl, ca, hj, rfl⟩ := hp
  refine lv_if_eq (tgt := 34) cx.1 cx.2.1 dX2_setSuper_5 (by decide) (fun c5 => ?_) (fun c5 => ?_)
  · have h := md_ip c5 h
    exact hp_vret cx hw ((cd_ret hj h).2) dX2_setSuper_34
  · have h := md_in c5 h
    refine lv_aload_n cx.1 cx.2.1 dX2_setSuper_8 rfl (lv_at hl 0 rfl) ?_
    refine lv_iload_n cx.1 cx.2.1 dX2_setSuper_9 rfl (lv_at hl 2 rfl) ?_
    obtain ⟨p2, e_p2, h⟩ := md_ob h
    refine hp_callVi (As := [.int a2]) (rest := []) cx hw (kc_X2_isModule l D cA E _ ad _ hj oq sgq sgv hE n p1.2 a2 p2 e_p2) (cwV 1 cx.2.2.2.2.2.1 (cd_giV cm_164 cm_165 cm_166 cm_167 cm_168) rfl rfl rfl hdc_X2_isModule ⟨Nat.le_of_ble_eq_true rfl, Nat.le_of_ble_eq_true rfl⟩) (cd_atO hj (by decide) (by decide)) rfl rfl hl.1 rfl (Nat.le_of_ble_eq_true rfl) dX2_setSuper_10 ⟨Nat.le_refl _, Nat.le_refl _⟩ (fun r u H locs hp hw => ?_)
    obtain ⟨rfl, ca, hj, rfl⟩ := hp
    refine lv_if_eq (tgt := 34) cx.1 cx.2.1 dX2_setSuper_13 (by decide) (fun c13 => ?_) (fun c13 => ?_)
    · have h := md_ip c13 h
      exact hp_vret cx hw ((cd_ret hj h).2) dX2_setSuper_34
    · have h := md_in c13 h
      refine lv_aload_n cx.1 cx.2.1 dX2_setSuper_16 rfl (lv_at hl 0 rfl) ?_
      refine cd_gA (o := 2) (k := 4) (f := 68) hj cx hw hic2 rfl ⟨by decide, rfl, by decide, rfl⟩ rfl (by decide) (List.mem_cons_of_mem _ cm_381) dX2_setSuper_17 ?_
      refine lv_iload_n cx.1 cx.2.1 dX2_setSuper_20 rfl (lv_at hl 1 rfl) ?_
      refine lv_iload_n cx.1 cx.2.1 dX2_setSuper_21 rfl (lv_at hl 2 rfl) ?_
      obtain ⟨σ3, e_σ3, h⟩ := md_ob h
      refine cd_sI (f := 68) hj cx hw (by decide) (by decide) rfl e_σ3 dX2_setSuper_22 (fun H locs hw => ?_)
      refine lv_aload_n cx.1 cx.2.1 dX2_setSuper_23 rfl (lv_at hl 0 rfl) ?_
      refine cd_gA (o := 2) (k := 7) (f := 71) hj cx hw hic2 rfl ⟨by decide, rfl, by decide, rfl⟩ rfl (by decide) (List.mem_cons_of_mem _ cm_169) dX2_setSuper_24 ?_
      refine lv_iload_n cx.1 cx.2.1 dX2_setSuper_27 rfl (lv_at hl 1 rfl) ?_
      refine lv_aload_n cx.1 cx.2.1 dX2_setSuper_28 rfl (lv_at hl 0 rfl) ?_
      refine lv_iload_n cx.1 cx.2.1 dX2_setSuper_29 rfl (lv_at hl 2 rfl) ?_
      obtain ⟨p4, e_p4, h⟩ := md_ob h
      refine hp_callVi (As := [.int a2]) (rest := [.int a1, .ref (ad 171 0)]) cx hw (kc_X2_fieldTotal l D cA E _ ad _ hj oq sgq sgv hE n σ3 a2 p4 e_p4) (cwV 1 cx.2.2.2.2.2.1 (cd_giV cm_555 cm_181 cm_182 cm_167 cm_183) rfl rfl rfl hdc_X2_fieldTotal ⟨Nat.le_of_ble_eq_true rfl, Nat.le_of_ble_eq_true rfl⟩) (cd_atO hj (by decide) (by decide)) rfl rfl hl.1 rfl (Nat.le_of_ble_eq_true rfl) dX2_setSuper_30 ⟨Nat.le_refl _, Nat.le_refl _⟩ (fun r u H locs hp hw => ?_)
      obtain ⟨rfl, ca, hj, rfl⟩ := hp
      obtain ⟨σ5, e_σ5, h⟩ := md_ob h
      refine cd_sI (f := 71) hj cx hw (by decide) (by decide) rfl e_σ5 dX2_setSuper_33 (fun H locs hw => ?_)
      exact hp_vret cx hw ((cd_ret hj h).2) dX2_setSuper_34
set_option maxHeartbeats 4000000 in
set_option maxRecDepth 100000 in
theorem kc_X2_fieldCount (l : Launch) (D : va_G) (cA : Nat → ClassId) (E : hp_N) (sz : Nat) (ad : Nat → Nat → Nat) (ca0 : Nat → Nat) (hj : cd_inj ad ca0) (oq sgq sgv : Nat) (hE : cd_E E oq sgq sgv) (n : Nat) (σ0 : cd_S) (a1 : Int32) (p : (Int32 × cd_S)) (h : f_X2_fieldCount n σ0 a1 = some p) : Met l yX2_fieldCount (Cond.code yX2_fieldCount cX2_fieldCount 2 (some .int) :: v_CLS) ({ frames := 1, cells := 0, slots := 0, locals := 21 }) (hp_Pc D vwCl (hp_Tl cA) E sz (cd_pic cA ad ca0 σ0) [.ref (ad 2 0), .int a1]) (hp_Qi D vwCl (hp_Tl cA) sz (cd_pic cA ad ca0 σ0) (fun r u => r = p.1 ∧ ∃ ca1, cd_inj ad ca1 ∧ u = cd_pic cA ad ca1 p.2)) 0 0 (hp_A (cd_pic cA ad ca0 σ0) sz) := by
  refine hp_ofW (cc := cX2_fieldCount) (maxL := 2) (ret := (some .int)) (by decide) rfl (Nat.le_of_ble_eq_true rfl) ?_
  intro pp ee ss mm bb mt cd ls cx hsz hw hl
  have hl : lv_has ls 2 [(0, .ref (ad 2 0)), (1, .int a1)] := hl
  refine lv_aload_n cx.1 cx.2.1 dX2_fieldCount_0 rfl (lv_at hl 0 rfl) ?_
  refine lv_iload_n cx.1 cx.2.1 dX2_fieldCount_1 rfl (lv_at hl 1 rfl) ?_
  obtain ⟨p1, e_p1, h⟩ := md_ob h
  refine hp_callVi (As := [.int a1]) (rest := []) cx hw (kc_X2_isModule l D cA E _ ad _ hj oq sgq sgv hE n σ0 a1 p1 e_p1) (cwV 1 cx.2.2.2.2.2.1 (cd_giV cm_164 cm_165 cm_166 cm_167 cm_168) rfl rfl rfl hdc_X2_isModule ⟨Nat.le_of_ble_eq_true rfl, Nat.le_of_ble_eq_true rfl⟩) (cd_atO hj (by decide) (by decide)) rfl rfl hl.1 rfl (Nat.le_of_ble_eq_true rfl) dX2_fieldCount_2 ⟨Nat.le_refl _, Nat.le_refl _⟩ (fun r u H locs hp hw => ?_)
  obtain ⟨rfl, ca, hj, rfl⟩ := hp
  refine lv_if_eq (tgt := 17) cx.1 cx.2.1 dX2_fieldCount_5 (by decide) (fun c5 => ?_) (fun c5 => ?_)
  · have h := md_ip c5 h
    refine lv_iconst (v := 0) cx.1 cx.2.1 dX2_fieldCount_17 (by decide) ?_
    exact hp_iret cx hw (cd_ret hj h) dX2_fieldCount_18
  · have h := md_in c5 h
    refine lv_aload_n cx.1 cx.2.1 dX2_fieldCount_8 rfl (lv_at hl 0 rfl) ?_
    refine cd_gA (o := 2) (k := 6) (f := 70) hj cx hw hic2 rfl ⟨by decide, rfl, by decide, rfl⟩ rfl (by decide) (List.mem_cons_of_mem _ cm_170) dX2_fieldCount_9 ?_
    refine lv_iload_n cx.1 cx.2.1 dX2_fieldCount_12 rfl (lv_at hl 1 rfl) ?_
    obtain ⟨v2, e_v2, h⟩ := md_ob h
    refine cd_lI (f := 70) hj cx hw (by decide) (by decide) rfl e_v2 dX2_fieldCount_13 ?_
    refine lv_goto (tgt := 18) cx.1 cx.2.1 dX2_fieldCount_14 (by decide) ?_
    exact hp_iret cx hw (cd_ret hj h) dX2_fieldCount_18
set_option maxHeartbeats 4000000 in
set_option maxRecDepth 100000 in
theorem kc_X2_addField (l : Launch) (D : va_G) (cA : Nat → ClassId) (E : hp_N) (sz : Nat) (ad : Nat → Nat → Nat) (ca0 : Nat → Nat) (hj : cd_inj ad ca0) (oq sgq sgv : Nat) (hE : cd_E E oq sgq sgv) (n : Nat) (σ0 : cd_S) (a1 : Int32) (a2 : Int64) (p : (Int32 × cd_S)) (h : f_X2_addField n σ0 a1 a2 = some p) : Met l yX2_addField (Cond.code yX2_addField cX2_addField 4 none :: v_CLS) ({ frames := 1, cells := 0, slots := 0, locals := 21 }) (hp_Pc D vwCl (hp_Tl cA) E sz (cd_pic cA ad ca0 σ0) [.ref (ad 2 0), .int a1, .long a2]) (hp_Qv D vwCl (hp_Tl cA) sz (cd_pic cA ad ca0 σ0) (fun u => ∃ ca1, cd_inj ad ca1 ∧ u = cd_pic cA ad ca1 p.2)) 0 0 (hp_A (cd_pic cA ad ca0 σ0) sz) := by
  refine hp_ofW (cc := cX2_addField) (maxL := 4) (ret := none) (by decide) rfl (Nat.le_of_ble_eq_true rfl) ?_
  intro pp ee ss mm bb mt cd ls cx hsz hw hl
  have hl : lv_has ls 4 [(0, .ref (ad 2 0)), (1, .int a1), (2, .long a2)] := hl
  refine lv_aload_n cx.1 cx.2.1 dX2_addField_0 rfl (lv_at hl 0 rfl) ?_
  refine lv_iload_n cx.1 cx.2.1 dX2_addField_1 rfl (lv_at hl 1 rfl) ?_
  obtain ⟨p1, e_p1, h⟩ := md_ob h
  refine hp_callVi (As := [.int a1]) (rest := []) cx hw (kc_X2_isModule l D cA E _ ad _ hj oq sgq sgv hE n σ0 a1 p1 e_p1) (cwV 1 cx.2.2.2.2.2.1 (cd_giV cm_164 cm_165 cm_166 cm_167 cm_168) rfl rfl rfl hdc_X2_isModule ⟨Nat.le_of_ble_eq_true rfl, Nat.le_of_ble_eq_true rfl⟩) (cd_atO hj (by decide) (by decide)) rfl rfl hl.1 rfl (Nat.le_of_ble_eq_true rfl) dX2_addField_2 ⟨Nat.le_refl _, Nat.le_refl _⟩ (fun r u H locs hp hw => ?_)
  obtain ⟨rfl, ca, hj, rfl⟩ := hp
  refine lv_if_eq (tgt := 44) cx.1 cx.2.1 dX2_addField_5 (by decide) (fun c5 => ?_) (fun c5 => ?_)
  · have h := md_ip c5 h
    exact hp_vret cx hw ((cd_ret hj h).2) dX2_addField_44
  · have h := md_in c5 h
    refine lv_aload_n cx.1 cx.2.1 dX2_addField_8 rfl (lv_at hl 0 rfl) ?_
    refine cd_gA (o := 2) (k := 6) (f := 70) hj cx hw hic2 rfl ⟨by decide, rfl, by decide, rfl⟩ rfl (by decide) (List.mem_cons_of_mem _ cm_170) dX2_addField_9 ?_
    refine lv_iload_n cx.1 cx.2.1 dX2_addField_12 rfl (lv_at hl 1 rfl) ?_
    obtain ⟨v2, e_v2, h⟩ := md_ob h
    refine cd_lI (f := 70) hj cx hw (by decide) (by decide) rfl e_v2 dX2_addField_13 ?_
    refine lv_iconst (v := 4) cx.1 cx.2.1 dX2_addField_14 (by decide) ?_
    refine lv_icmp_ge (tgt := 44) cx.1 cx.2.1 dX2_addField_15 (by decide) (fun c15 => ?_) (fun c15 => ?_)
    · have h := md_ip c15 h
      exact hp_vret cx hw ((cd_ret hj h).2) dX2_addField_44
    · have h := md_in c15 h
      refine lv_aload_n cx.1 cx.2.1 dX2_addField_18 rfl (lv_at hl 0 rfl) ?_
      refine cd_gA (o := 2) (k := 5) (f := 69) hj cx hw hic2 rfl ⟨by decide, rfl, by decide, rfl⟩ rfl (by decide) (List.mem_cons_of_mem _ cm_380) dX2_addField_19 ?_
      refine lv_iload_n cx.1 cx.2.1 dX2_addField_22 rfl (lv_at hl 1 rfl) ?_
      refine lv_iconst (v := 4) cx.1 cx.2.1 dX2_addField_23 (by decide) ?_
      refine lv_imul cx.1 cx.2.1 dX2_addField_24 ?_
      refine lv_aload_n cx.1 cx.2.1 dX2_addField_25 rfl (lv_at hl 0 rfl) ?_
      refine cd_gA (o := 2) (k := 6) (f := 70) hj cx hw hic2 rfl ⟨by decide, rfl, by decide, rfl⟩ rfl (by decide) (List.mem_cons_of_mem _ cm_170) dX2_addField_26 ?_
      refine lv_iload_n cx.1 cx.2.1 dX2_addField_29 rfl (lv_at hl 1 rfl) ?_
      obtain ⟨v3, e_v3, h⟩ := md_ob h
      refine cd_lI (f := 70) hj cx hw (by decide) (by decide) rfl e_v3 dX2_addField_30 ?_
      refine lv_iadd cx.1 cx.2.1 dX2_addField_31 ?_
      refine lv_lload_n cx.1 cx.2.1 dX2_addField_32 rfl (lv_at hl 2 rfl) ?_
      obtain ⟨σ4, e_σ4, h⟩ := md_ob h
      refine cd_sJ (f := 69) hj cx hw (by decide) (by decide) rfl e_σ4 dX2_addField_33 (fun H locs hw => ?_)
      refine lv_aload_n cx.1 cx.2.1 dX2_addField_34 rfl (lv_at hl 0 rfl) ?_
      refine cd_gA (o := 2) (k := 6) (f := 70) hj cx hw hic2 rfl ⟨by decide, rfl, by decide, rfl⟩ rfl (by decide) (List.mem_cons_of_mem _ cm_170) dX2_addField_35 ?_
      refine lv_iload_n cx.1 cx.2.1 dX2_addField_38 rfl (lv_at hl 1 rfl) ?_
      refine lv_dup2_11 cx.1 cx.2.1 dX2_addField_39 rfl rfl ?_
      obtain ⟨v5, e_v5, h⟩ := md_ob h
      refine cd_lI (f := 70) hj cx hw (by decide) (by decide) rfl e_v5 dX2_addField_40 ?_
      refine lv_iconst (v := 1) cx.1 cx.2.1 dX2_addField_41 (by decide) ?_
      refine lv_iadd cx.1 cx.2.1 dX2_addField_42 ?_
      obtain ⟨σ6, e_σ6, h⟩ := md_ob h
      refine cd_sI (f := 70) hj cx hw (by decide) (by decide) rfl e_σ6 dX2_addField_43 (fun H locs hw => ?_)
      exact hp_vret cx hw ((cd_ret hj h).2) dX2_addField_44
set_option maxHeartbeats 4000000 in
set_option maxRecDepth 100000 in
theorem kc_X2_methodCount (l : Launch) (D : va_G) (cA : Nat → ClassId) (E : hp_N) (sz : Nat) (ad : Nat → Nat → Nat) (ca0 : Nat → Nat) (hj : cd_inj ad ca0) (oq sgq sgv : Nat) (hE : cd_E E oq sgq sgv) (n : Nat) (σ0 : cd_S) (a1 : Int32) (p : (Int32 × cd_S)) (h : f_X2_methodCount n σ0 a1 = some p) : Met l yX2_methodCount (Cond.code yX2_methodCount cX2_methodCount 2 (some .int) :: v_CLS) ({ frames := 1, cells := 0, slots := 0, locals := 21 }) (hp_Pc D vwCl (hp_Tl cA) E sz (cd_pic cA ad ca0 σ0) [.ref (ad 2 0), .int a1]) (hp_Qi D vwCl (hp_Tl cA) sz (cd_pic cA ad ca0 σ0) (fun r u => r = p.1 ∧ ∃ ca1, cd_inj ad ca1 ∧ u = cd_pic cA ad ca1 p.2)) 0 0 (hp_A (cd_pic cA ad ca0 σ0) sz) := by
  refine hp_ofW (cc := cX2_methodCount) (maxL := 2) (ret := (some .int)) (by decide) rfl (Nat.le_of_ble_eq_true rfl) ?_
  intro pp ee ss mm bb mt cd ls cx hsz hw hl
  have hl : lv_has ls 2 [(0, .ref (ad 2 0)), (1, .int a1)] := hl
  refine lv_aload_n cx.1 cx.2.1 dX2_methodCount_0 rfl (lv_at hl 0 rfl) ?_
  refine lv_iload_n cx.1 cx.2.1 dX2_methodCount_1 rfl (lv_at hl 1 rfl) ?_
  obtain ⟨p1, e_p1, h⟩ := md_ob h
  refine hp_callVi (As := [.int a1]) (rest := []) cx hw (kc_X2_isModule l D cA E _ ad _ hj oq sgq sgv hE n σ0 a1 p1 e_p1) (cwV 1 cx.2.2.2.2.2.1 (cd_giV cm_164 cm_165 cm_166 cm_167 cm_168) rfl rfl rfl hdc_X2_isModule ⟨Nat.le_of_ble_eq_true rfl, Nat.le_of_ble_eq_true rfl⟩) (cd_atO hj (by decide) (by decide)) rfl rfl hl.1 rfl (Nat.le_of_ble_eq_true rfl) dX2_methodCount_2 ⟨Nat.le_refl _, Nat.le_refl _⟩ (fun r u H locs hp hw => ?_)
  obtain ⟨rfl, ca, hj, rfl⟩ := hp
  refine lv_if_eq (tgt := 17) cx.1 cx.2.1 dX2_methodCount_5 (by decide) (fun c5 => ?_) (fun c5 => ?_)
  · have h := md_ip c5 h
    refine lv_iconst (v := 0) cx.1 cx.2.1 dX2_methodCount_17 (by decide) ?_
    exact hp_iret cx hw (cd_ret hj h) dX2_methodCount_18
  · have h := md_in c5 h
    refine lv_aload_n cx.1 cx.2.1 dX2_methodCount_8 rfl (lv_at hl 0 rfl) ?_
    refine cd_gA (o := 2) (k := 9) (f := 73) hj cx hw hic2 rfl ⟨by decide, rfl, by decide, rfl⟩ rfl (by decide) (List.mem_cons_of_mem _ cm_392) dX2_methodCount_9 ?_
    refine lv_iload_n cx.1 cx.2.1 dX2_methodCount_12 rfl (lv_at hl 1 rfl) ?_
    obtain ⟨v2, e_v2, h⟩ := md_ob h
    refine cd_lI (f := 73) hj cx hw (by decide) (by decide) rfl e_v2 dX2_methodCount_13 ?_
    refine lv_goto (tgt := 18) cx.1 cx.2.1 dX2_methodCount_14 (by decide) ?_
    exact hp_iret cx hw (cd_ret hj h) dX2_methodCount_18
set_option maxHeartbeats 4000000 in
set_option maxRecDepth 100000 in
theorem kc_X2_addMethod (l : Launch) (D : va_G) (cA : Nat → ClassId) (E : hp_N) (sz : Nat) (ad : Nat → Nat → Nat) (ca0 : Nat → Nat) (hj : cd_inj ad ca0) (oq sgq sgv : Nat) (hE : cd_E E oq sgq sgv) (n : Nat) (σ0 : cd_S) (a1 : Int32) (a2 : Int32) (p : (Int32 × cd_S)) (h : f_X2_addMethod n σ0 a1 a2 = some p) : Met l yX2_addMethod (Cond.code yX2_addMethod cX2_addMethod 3 none :: v_CLS) ({ frames := 1, cells := 0, slots := 0, locals := 21 }) (hp_Pc D vwCl (hp_Tl cA) E sz (cd_pic cA ad ca0 σ0) [.ref (ad 2 0), .int a1, .int a2]) (hp_Qv D vwCl (hp_Tl cA) sz (cd_pic cA ad ca0 σ0) (fun u => ∃ ca1, cd_inj ad ca1 ∧ u = cd_pic cA ad ca1 p.2)) 0 0 (hp_A (cd_pic cA ad ca0 σ0) sz) := by
  refine hp_ofW (cc := cX2_addMethod) (maxL := 3) (ret := none) (by decide) rfl (Nat.le_of_ble_eq_true rfl) ?_
  intro pp ee ss mm bb mt cd ls cx hsz hw hl
  have hl : lv_has ls 3 [(0, .ref (ad 2 0)), (1, .int a1), (2, .int a2)] := hl
  refine lv_aload_n cx.1 cx.2.1 dX2_addMethod_0 rfl (lv_at hl 0 rfl) ?_
  refine lv_iload_n cx.1 cx.2.1 dX2_addMethod_1 rfl (lv_at hl 1 rfl) ?_
  obtain ⟨p1, e_p1, h⟩ := md_ob h
  refine hp_callVi (As := [.int a1]) (rest := []) cx hw (kc_X2_isModule l D cA E _ ad _ hj oq sgq sgv hE n σ0 a1 p1 e_p1) (cwV 1 cx.2.2.2.2.2.1 (cd_giV cm_164 cm_165 cm_166 cm_167 cm_168) rfl rfl rfl hdc_X2_isModule ⟨Nat.le_of_ble_eq_true rfl, Nat.le_of_ble_eq_true rfl⟩) (cd_atO hj (by decide) (by decide)) rfl rfl hl.1 rfl (Nat.le_of_ble_eq_true rfl) dX2_addMethod_2 ⟨Nat.le_refl _, Nat.le_refl _⟩ (fun r u H locs hp hw => ?_)
  obtain ⟨rfl, ca, hj, rfl⟩ := hp
  refine lv_if_eq (tgt := 46) cx.1 cx.2.1 dX2_addMethod_5 (by decide) (fun c5 => ?_) (fun c5 => ?_)
  · have h := md_ip c5 h
    exact hp_vret cx hw ((cd_ret hj h).2) dX2_addMethod_46
  · have h := md_in c5 h
    refine lv_aload_n cx.1 cx.2.1 dX2_addMethod_8 rfl (lv_at hl 0 rfl) ?_
    refine cd_gA (o := 2) (k := 9) (f := 73) hj cx hw hic2 rfl ⟨by decide, rfl, by decide, rfl⟩ rfl (by decide) (List.mem_cons_of_mem _ cm_392) dX2_addMethod_9 ?_
    refine lv_iload_n cx.1 cx.2.1 dX2_addMethod_12 rfl (lv_at hl 1 rfl) ?_
    obtain ⟨v2, e_v2, h⟩ := md_ob h
    refine cd_lI (f := 73) hj cx hw (by decide) (by decide) rfl e_v2 dX2_addMethod_13 ?_
    refine lv_bipush (v := 12) cx.1 cx.2.1 dX2_addMethod_14 (by decide) ?_
    refine lv_icmp_ge (tgt := 46) cx.1 cx.2.1 dX2_addMethod_16 (by decide) (fun c16 => ?_) (fun c16 => ?_)
    · have h := md_ip c16 h
      exact hp_vret cx hw ((cd_ret hj h).2) dX2_addMethod_46
    · have h := md_in c16 h
      refine lv_aload_n cx.1 cx.2.1 dX2_addMethod_19 rfl (lv_at hl 0 rfl) ?_
      refine cd_gA (o := 2) (k := 8) (f := 72) hj cx hw hic2 rfl ⟨by decide, rfl, by decide, rfl⟩ rfl (by decide) (List.mem_cons_of_mem _ cm_393) dX2_addMethod_20 ?_
      refine lv_iload_n cx.1 cx.2.1 dX2_addMethod_23 rfl (lv_at hl 1 rfl) ?_
      refine lv_bipush (v := 12) cx.1 cx.2.1 dX2_addMethod_24 (by decide) ?_
      refine lv_imul cx.1 cx.2.1 dX2_addMethod_26 ?_
      refine lv_aload_n cx.1 cx.2.1 dX2_addMethod_27 rfl (lv_at hl 0 rfl) ?_
      refine cd_gA (o := 2) (k := 9) (f := 73) hj cx hw hic2 rfl ⟨by decide, rfl, by decide, rfl⟩ rfl (by decide) (List.mem_cons_of_mem _ cm_392) dX2_addMethod_28 ?_
      refine lv_iload_n cx.1 cx.2.1 dX2_addMethod_31 rfl (lv_at hl 1 rfl) ?_
      obtain ⟨v3, e_v3, h⟩ := md_ob h
      refine cd_lI (f := 73) hj cx hw (by decide) (by decide) rfl e_v3 dX2_addMethod_32 ?_
      refine lv_iadd cx.1 cx.2.1 dX2_addMethod_33 ?_
      refine lv_iload_n cx.1 cx.2.1 dX2_addMethod_34 rfl (lv_at hl 2 rfl) ?_
      obtain ⟨σ4, e_σ4, h⟩ := md_ob h
      refine cd_sI (f := 72) hj cx hw (by decide) (by decide) rfl e_σ4 dX2_addMethod_35 (fun H locs hw => ?_)
      refine lv_aload_n cx.1 cx.2.1 dX2_addMethod_36 rfl (lv_at hl 0 rfl) ?_
      refine cd_gA (o := 2) (k := 9) (f := 73) hj cx hw hic2 rfl ⟨by decide, rfl, by decide, rfl⟩ rfl (by decide) (List.mem_cons_of_mem _ cm_392) dX2_addMethod_37 ?_
      refine lv_iload_n cx.1 cx.2.1 dX2_addMethod_40 rfl (lv_at hl 1 rfl) ?_
      refine lv_dup2_11 cx.1 cx.2.1 dX2_addMethod_41 rfl rfl ?_
      obtain ⟨v5, e_v5, h⟩ := md_ob h
      refine cd_lI (f := 73) hj cx hw (by decide) (by decide) rfl e_v5 dX2_addMethod_42 ?_
      refine lv_iconst (v := 1) cx.1 cx.2.1 dX2_addMethod_43 (by decide) ?_
      refine lv_iadd cx.1 cx.2.1 dX2_addMethod_44 ?_
      obtain ⟨σ6, e_σ6, h⟩ := md_ob h
      refine cd_sI (f := 73) hj cx hw (by decide) (by decide) rfl e_σ6 dX2_addMethod_45 (fun H locs hw => ?_)
      exact hp_vret cx hw ((cd_ret hj h).2) dX2_addMethod_46
set_option maxHeartbeats 4000000 in
set_option maxRecDepth 100000 in
theorem kc_X2_numberIndex (l : Launch) (D : va_G) (cA : Nat → ClassId) (E : hp_N) (sz : Nat) (ad : Nat → Nat → Nat) (ca0 : Nat → Nat) (hj : cd_inj ad ca0) (oq sgq sgv : Nat) (hE : cd_E E oq sgq sgv) (n : Nat) (σ0 : cd_S) (a1 : Int32) (p : (Int32 × cd_S)) (h : f_X2_numberIndex n σ0 a1 = some p) : Met l yX2_numberIndex (Cond.code yX2_numberIndex cX2_numberIndex 3 (some .int) :: v_CLS) ({ frames := 0, cells := 0, slots := 0, locals := 0 }) (hp_Pc D vwCl (hp_Tl cA) E sz (cd_pic cA ad ca0 σ0) [.ref (ad 2 0), .int a1]) (hp_Qi D vwCl (hp_Tl cA) sz (cd_pic cA ad ca0 σ0) (fun r u => r = p.1 ∧ ∃ ca1, cd_inj ad ca1 ∧ u = cd_pic cA ad ca1 p.2)) 0 0 (hp_A (cd_pic cA ad ca0 σ0) sz) := by
  refine hp_ofW (cc := cX2_numberIndex) (maxL := 3) (ret := (some .int)) (by decide) rfl (Nat.le_of_ble_eq_true rfl) ?_
  intro pp ee ss mm bb mt cd ls cx hsz hw hl
  have hl : lv_has ls 3 [(0, .ref (ad 2 0)), (1, .int a1)] := hl
  have J58 : ∀ (ca : Nat → Nat) (hj : cd_inj ad ca) (σ : cd_S) (H : Heap) (locs : List Loc) (ls : Array Slot), f_X2_numberIndex_J58 n σ = some p → hp_w D vwCl (hp_Tl cA) E (hp_A (cd_pic cA ad ca0 σ0) sz) ss H locs (cd_pic cA ad ca σ) → lv_has ls 3 [(0, .ref (ad 2 0))] → W pp l ee ({ frames := 0, cells := 0, slots := 0, locals := 0 }) ss mm [.ref (ad 2 0), .int a1].toArray bb mt cd H locs 0 0 (MQ bb (hp_Qi D vwCl (hp_Tl cA) sz (cd_pic cA ad ca0 σ0) (fun r u => r = p.1 ∧ ∃ ca1, cd_inj ad ca1 ∧ u = cd_pic cA ad ca1 p.2)) [.ref (ad 2 0), .int a1].toArray ss 0 0 (hp_A (cd_pic cA ad ca0 σ0) sz)) (F0 mm 58 ls []) := by
    intro ca hj σ H locs ls h hw hl
    refine lv_aload_n cx.1 cx.2.1 dX2_numberIndex_58 rfl (lv_at hl 0 rfl) ?_
    refine cd_gI (o := 2) (k := 12) (f := 76) hj cx hw hic2 rfl ⟨by decide, rfl, by decide, rfl⟩ rfl (by decide) (List.mem_cons_of_mem _ cm_405) dX2_numberIndex_59 ?_
    refine lv_iconst (v := 1) cx.1 cx.2.1 dX2_numberIndex_62 (by decide) ?_
    refine lv_isub cx.1 cx.2.1 dX2_numberIndex_63 ?_
    exact hp_iret cx hw (cd_ret hj h) dX2_numberIndex_64
  refine lv_iconst (v := 0) cx.1 cx.2.1 dX2_numberIndex_0 (by decide) ?_
  refine lv_istore_n (lv' := [(2, .int 0), (0, .ref (ad 2 0)), (1, .int a1)]) cx.1 cx.2.1 dX2_numberIndex_1 rfl hl (by decide) rfl (fun ls hl => ?_)
  have L2 : ∀ (j : Nat) (ca : Nat → Nat) (hj : cd_inj ad ca) (σ : cd_S) (l1 : Int32) (l2 : Int32) (q : ((Int32 × cd_S) ⊕ (cd_S × Int32))) (H : Heap) (locs : List Loc) (ls : Array Slot), f_X2_numberIndex_L2 n l1 j σ l2 = some q → hp_w D vwCl (hp_Tl cA) E (hp_A (cd_pic cA ad ca0 σ0) sz) ss H locs (cd_pic cA ad ca σ) → lv_has ls 3 [(0, .ref (ad 2 0)), (1, .int l1), (2, .int l2)] → (∀ t, q = Sum.inr t → (∀ (ca : Nat → Nat) (hj : cd_inj ad ca) (H : Heap) (locs : List Loc) (ls : Array Slot), hp_w D vwCl (hp_Tl cA) E (hp_A (cd_pic cA ad ca0 σ0) sz) ss H locs (cd_pic cA ad ca t.1) → lv_has ls 3 [(0, .ref (ad 2 0)), (1, .int l1)] → W pp l ee ({ frames := 0, cells := 0, slots := 0, locals := 0 }) ss mm [.ref (ad 2 0), .int a1].toArray bb mt cd H locs 0 0 (MQ bb (hp_Qi D vwCl (hp_Tl cA) sz (cd_pic cA ad ca0 σ0) (fun r u => r = p.1 ∧ ∃ ca1, cd_inj ad ca1 ∧ u = cd_pic cA ad ca1 p.2)) [.ref (ad 2 0), .int a1].toArray ss 0 0 (hp_A (cd_pic cA ad ca0 σ0) sz)) (F0 mm 28 ls []))) → (∀ r, q = Sum.inl r → r = p) → W pp l ee ({ frames := 0, cells := 0, slots := 0, locals := 0 }) ss mm [.ref (ad 2 0), .int a1].toArray bb mt cd H locs 0 0 (MQ bb (hp_Qi D vwCl (hp_Tl cA) sz (cd_pic cA ad ca0 σ0) (fun r u => r = p.1 ∧ ∃ ca1, cd_inj ad ca1 ∧ u = cd_pic cA ad ca1 p.2)) [.ref (ad 2 0), .int a1].toArray ss 0 0 (hp_A (cd_pic cA ad ca0 σ0) sz)) (F0 mm 2 ls []) := by
    intro j
    induction j with
    | zero => intro ca hj σ l1 l2 q H locs ls h; exact nomatch h
    | succ j ih =>
      intro ca hj σ l1 l2 q H locs ls h hw hl K KR
      unfold f_X2_numberIndex_L2 at h
      refine lv_iload_n cx.1 cx.2.1 dX2_numberIndex_2 rfl (lv_at hl 2 rfl) ?_
      refine lv_aload_n cx.1 cx.2.1 dX2_numberIndex_3 rfl (lv_at hl 0 rfl) ?_
      refine cd_gI (o := 2) (k := 12) (f := 76) hj cx hw hic2 rfl ⟨by decide, rfl, by decide, rfl⟩ rfl (by decide) (List.mem_cons_of_mem _ cm_405) dX2_numberIndex_4 ?_
      refine lv_icmp_ge (tgt := 28) cx.1 cx.2.1 dX2_numberIndex_7 (by decide) (fun c7 => ?_) (fun c7 => ?_)
      · have h := md_ip c7 h
        exact K _ (Option.some.inj h).symm _ hj _ _ _ hw (lv_sub hl [0, 1] rfl)
      · have h := md_in c7 h
        refine lv_aload_n cx.1 cx.2.1 dX2_numberIndex_10 rfl (lv_at hl 0 rfl) ?_
        refine cd_gA (o := 2) (k := 11) (f := 75) hj cx hw hic2 rfl ⟨by decide, rfl, by decide, rfl⟩ rfl (by decide) (List.mem_cons_of_mem _ cm_406) dX2_numberIndex_11 ?_
        refine lv_iload_n cx.1 cx.2.1 dX2_numberIndex_14 rfl (lv_at hl 2 rfl) ?_
        obtain ⟨v1, e_v1, h⟩ := md_ob h
        refine cd_lI (f := 75) hj cx hw (by decide) (by decide) rfl e_v1 dX2_numberIndex_15 ?_
        refine lv_iload_n cx.1 cx.2.1 dX2_numberIndex_16 rfl (lv_at hl 1 rfl) ?_
        refine lv_icmp_ne (tgt := 22) cx.1 cx.2.1 dX2_numberIndex_17 (by decide) (fun c17 => ?_) (fun c17 => ?_)
        · have h := md_in c17 h
          refine lv_iinc (v := (l2 + 1)) (lv' := [(2, .int (l2 + 1)), (0, .ref (ad 2 0)), (1, .int l1)]) cx.1 cx.2.1 dX2_numberIndex_22 hl (k := 2) rfl rfl (by decide) rfl (fun ls hl => ?_)
          refine lv_goto (tgt := 2) cx.1 cx.2.1 dX2_numberIndex_25 (by decide) ?_
          exact ih _ hj σ l1 ((l2 + 1)) q _ _ _ h hw (lv_sub hl [1, 2, 0] rfl) K KR
        · have h := md_ip c17 h
          refine lv_iload_n cx.1 cx.2.1 dX2_numberIndex_20 rfl (lv_at hl 2 rfl) ?_
          exact hp_iret cx hw (cd_ret hj (congrArg some (KR _ (Option.some.inj h).symm))) dX2_numberIndex_21
  obtain ⟨q2, e_q2, h⟩ := md_ob h
  refine L2 n _ hj σ0 a1 0 q2 _ _ _ e_q2 hw (lv_sub hl [1, 2, 0] rfl) (fun t2 hq2 ca hj H locs ls hw hl => ?_) (fun r hr => by subst hr; exact Option.some.inj h)
  subst hq2
  have h := md_inr h
  refine lv_aload_n cx.1 cx.2.1 dX2_numberIndex_28 rfl (lv_at hl 0 rfl) ?_
  refine cd_gI (o := 2) (k := 12) (f := 76) hj cx hw hic2 rfl ⟨by decide, rfl, by decide, rfl⟩ rfl (by decide) (List.mem_cons_of_mem _ cm_405) dX2_numberIndex_29 ?_
  refine lv_sipush (v := 400) cx.1 cx.2.1 dX2_numberIndex_32 (by decide) ?_
  refine lv_icmp_ge (tgt := 58) cx.1 cx.2.1 dX2_numberIndex_35 (by decide) (fun c35 => ?_) (fun c35 => ?_)
  · have h := md_ip c35 h
    exact J58 _ hj t2.1 _ _ _ h hw (lv_sub hl [0] rfl)
  · have h := md_in c35 h
    refine lv_aload_n cx.1 cx.2.1 dX2_numberIndex_38 rfl (lv_at hl 0 rfl) ?_
    refine cd_gA (o := 2) (k := 11) (f := 75) hj cx hw hic2 rfl ⟨by decide, rfl, by decide, rfl⟩ rfl (by decide) (List.mem_cons_of_mem _ cm_406) dX2_numberIndex_39 ?_
    refine lv_aload_n cx.1 cx.2.1 dX2_numberIndex_42 rfl (lv_at hl 0 rfl) ?_
    refine cd_gI (o := 2) (k := 12) (f := 76) hj cx hw hic2 rfl ⟨by decide, rfl, by decide, rfl⟩ rfl (by decide) (List.mem_cons_of_mem _ cm_405) dX2_numberIndex_43 ?_
    refine lv_iload_n cx.1 cx.2.1 dX2_numberIndex_46 rfl (lv_at hl 1 rfl) ?_
    obtain ⟨σ3, e_σ3, h⟩ := md_ob h
    refine cd_sI (f := 75) hj cx hw (by decide) (by decide) rfl e_σ3 dX2_numberIndex_47 (fun H locs hw => ?_)
    refine lv_aload_n cx.1 cx.2.1 dX2_numberIndex_48 rfl (lv_at hl 0 rfl) ?_
    refine lv_dup cx.1 cx.2.1 dX2_numberIndex_49 rfl ?_
    refine cd_gI (o := 2) (k := 12) (f := 76) hj cx hw hic2 rfl ⟨by decide, rfl, by decide, rfl⟩ rfl (by decide) (List.mem_cons_of_mem _ cm_405) dX2_numberIndex_50 ?_
    refine lv_iconst (v := 1) cx.1 cx.2.1 dX2_numberIndex_53 (by decide) ?_
    refine lv_iadd cx.1 cx.2.1 dX2_numberIndex_54 ?_
    obtain ⟨σ4, e_σ4, h⟩ := md_ob h
    refine cd_pI (o := 2) (k := 12) (f := 76) hj cx hw hic2 rfl ⟨by decide, rfl, by decide, rfl⟩ tyX2_ok nmX2 rfl (by decide) rfl (List.mem_cons_of_mem _ cm_405) rfl e_σ4 dX2_numberIndex_55 (fun H locs hw => ?_)
    exact J58 _ hj σ4 _ _ _ h hw (lv_sub hl [0] rfl)
set_option maxHeartbeats 4000000 in
set_option maxRecDepth 100000 in
theorem kc_X2_nameIndex (l : Launch) (D : va_G) (cA : Nat → ClassId) (E : hp_N) (sz : Nat) (ad : Nat → Nat → Nat) (ca0 : Nat → Nat) (hj : cd_inj ad ca0) (oq sgq sgv : Nat) (hE : cd_E E oq sgq sgv) (n : Nat) (σ0 : cd_S) (a1 : Int64) (p : (Int32 × cd_S)) (h : f_X2_nameIndex n σ0 a1 = some p) : Met l yX2_nameIndex (Cond.code yX2_nameIndex cX2_nameIndex 4 (some .int) :: v_CLS) ({ frames := 0, cells := 0, slots := 0, locals := 0 }) (hp_Pc D vwCl (hp_Tl cA) E sz (cd_pic cA ad ca0 σ0) [.ref (ad 2 0), .long a1]) (hp_Qi D vwCl (hp_Tl cA) sz (cd_pic cA ad ca0 σ0) (fun r u => r = p.1 ∧ ∃ ca1, cd_inj ad ca1 ∧ u = cd_pic cA ad ca1 p.2)) 0 0 (hp_A (cd_pic cA ad ca0 σ0) sz) := by
  refine hp_ofW (cc := cX2_nameIndex) (maxL := 4) (ret := (some .int)) (by decide) rfl (Nat.le_of_ble_eq_true rfl) ?_
  intro pp ee ss mm bb mt cd ls cx hsz hw hl
  have hl : lv_has ls 4 [(0, .ref (ad 2 0)), (1, .long a1)] := hl
  have J59 : ∀ (ca : Nat → Nat) (hj : cd_inj ad ca) (σ : cd_S) (H : Heap) (locs : List Loc) (ls : Array Slot), f_X2_nameIndex_J59 n σ = some p → hp_w D vwCl (hp_Tl cA) E (hp_A (cd_pic cA ad ca0 σ0) sz) ss H locs (cd_pic cA ad ca σ) → lv_has ls 4 [(0, .ref (ad 2 0))] → W pp l ee ({ frames := 0, cells := 0, slots := 0, locals := 0 }) ss mm [.ref (ad 2 0), .long a1].toArray bb mt cd H locs 0 0 (MQ bb (hp_Qi D vwCl (hp_Tl cA) sz (cd_pic cA ad ca0 σ0) (fun r u => r = p.1 ∧ ∃ ca1, cd_inj ad ca1 ∧ u = cd_pic cA ad ca1 p.2)) [.ref (ad 2 0), .long a1].toArray ss 0 0 (hp_A (cd_pic cA ad ca0 σ0) sz)) (F0 mm 59 ls []) := by
    intro ca hj σ H locs ls h hw hl
    refine lv_aload_n cx.1 cx.2.1 dX2_nameIndex_59 rfl (lv_at hl 0 rfl) ?_
    refine cd_gI (o := 2) (k := 14) (f := 78) hj cx hw hic2 rfl ⟨by decide, rfl, by decide, rfl⟩ rfl (by decide) (List.mem_cons_of_mem _ cm_382) dX2_nameIndex_60 ?_
    refine lv_iconst (v := 1) cx.1 cx.2.1 dX2_nameIndex_63 (by decide) ?_
    refine lv_isub cx.1 cx.2.1 dX2_nameIndex_64 ?_
    exact hp_iret cx hw (cd_ret hj h) dX2_nameIndex_65
  refine lv_iconst (v := 0) cx.1 cx.2.1 dX2_nameIndex_0 (by decide) ?_
  refine lv_istore_n (lv' := [(3, .int 0), (0, .ref (ad 2 0)), (1, .long a1)]) cx.1 cx.2.1 dX2_nameIndex_1 rfl hl (by decide) rfl (fun ls hl => ?_)
  have L2 : ∀ (j : Nat) (ca : Nat → Nat) (hj : cd_inj ad ca) (σ : cd_S) (l1 : Int64) (l3 : Int32) (q : ((Int32 × cd_S) ⊕ (cd_S × Int32))) (H : Heap) (locs : List Loc) (ls : Array Slot), f_X2_nameIndex_L2 n l1 j σ l3 = some q → hp_w D vwCl (hp_Tl cA) E (hp_A (cd_pic cA ad ca0 σ0) sz) ss H locs (cd_pic cA ad ca σ) → lv_has ls 4 [(0, .ref (ad 2 0)), (1, .long l1), (3, .int l3)] → (∀ t, q = Sum.inr t → (∀ (ca : Nat → Nat) (hj : cd_inj ad ca) (H : Heap) (locs : List Loc) (ls : Array Slot), hp_w D vwCl (hp_Tl cA) E (hp_A (cd_pic cA ad ca0 σ0) sz) ss H locs (cd_pic cA ad ca t.1) → lv_has ls 4 [(0, .ref (ad 2 0)), (1, .long l1)] → W pp l ee ({ frames := 0, cells := 0, slots := 0, locals := 0 }) ss mm [.ref (ad 2 0), .long a1].toArray bb mt cd H locs 0 0 (MQ bb (hp_Qi D vwCl (hp_Tl cA) sz (cd_pic cA ad ca0 σ0) (fun r u => r = p.1 ∧ ∃ ca1, cd_inj ad ca1 ∧ u = cd_pic cA ad ca1 p.2)) [.ref (ad 2 0), .long a1].toArray ss 0 0 (hp_A (cd_pic cA ad ca0 σ0) sz)) (F0 mm 29 ls []))) → (∀ r, q = Sum.inl r → r = p) → W pp l ee ({ frames := 0, cells := 0, slots := 0, locals := 0 }) ss mm [.ref (ad 2 0), .long a1].toArray bb mt cd H locs 0 0 (MQ bb (hp_Qi D vwCl (hp_Tl cA) sz (cd_pic cA ad ca0 σ0) (fun r u => r = p.1 ∧ ∃ ca1, cd_inj ad ca1 ∧ u = cd_pic cA ad ca1 p.2)) [.ref (ad 2 0), .long a1].toArray ss 0 0 (hp_A (cd_pic cA ad ca0 σ0) sz)) (F0 mm 2 ls []) := by
    intro j
    induction j with
    | zero => intro ca hj σ l1 l3 q H locs ls h; exact nomatch h
    | succ j ih =>
      intro ca hj σ l1 l3 q H locs ls h hw hl K KR
      unfold f_X2_nameIndex_L2 at h
      refine lv_iload_n cx.1 cx.2.1 dX2_nameIndex_2 rfl (lv_at hl 2 rfl) ?_
      refine lv_aload_n cx.1 cx.2.1 dX2_nameIndex_3 rfl (lv_at hl 0 rfl) ?_
      refine cd_gI (o := 2) (k := 14) (f := 78) hj cx hw hic2 rfl ⟨by decide, rfl, by decide, rfl⟩ rfl (by decide) (List.mem_cons_of_mem _ cm_382) dX2_nameIndex_4 ?_
      refine lv_icmp_ge (tgt := 29) cx.1 cx.2.1 dX2_nameIndex_7 (by decide) (fun c7 => ?_) (fun c7 => ?_)
      · have h := md_ip c7 h
        exact K _ (Option.some.inj h).symm _ hj _ _ _ hw (lv_sub hl [0, 1] rfl)
      · have h := md_in c7 h
        refine lv_aload_n cx.1 cx.2.1 dX2_nameIndex_10 rfl (lv_at hl 0 rfl) ?_
        refine cd_gA (o := 2) (k := 13) (f := 77) hj cx hw hic2 rfl ⟨by decide, rfl, by decide, rfl⟩ rfl (by decide) (List.mem_cons_of_mem _ cm_383) dX2_nameIndex_11 ?_
        refine lv_iload_n cx.1 cx.2.1 dX2_nameIndex_14 rfl (lv_at hl 2 rfl) ?_
        obtain ⟨v1, e_v1, h⟩ := md_ob h
        refine cd_lJ (f := 77) hj cx hw (by decide) (by decide) rfl e_v1 dX2_nameIndex_15 ?_
        refine lv_lload_n cx.1 cx.2.1 dX2_nameIndex_16 rfl (lv_at hl 1 rfl) ?_
        refine W.lcmp cx.1 cx.2.1 dX2_nameIndex_17 ?_
        refine lv_if_ne (tgt := 23) cx.1 cx.2.1 dX2_nameIndex_18 (by decide) (fun c18 => ?_) (fun c18 => ?_)
        · have h := md_in c18 h
          refine lv_iinc (v := (l3 + 1)) (lv' := [(3, .int (l3 + 1)), (0, .ref (ad 2 0)), (1, .long l1)]) cx.1 cx.2.1 dX2_nameIndex_23 hl (k := 2) rfl rfl (by decide) rfl (fun ls hl => ?_)
          refine lv_goto (tgt := 2) cx.1 cx.2.1 dX2_nameIndex_26 (by decide) ?_
          exact ih _ hj σ l1 ((l3 + 1)) q _ _ _ h hw (lv_sub hl [1, 2, 0] rfl) K KR
        · have h := md_ip c18 h
          refine lv_iload_n cx.1 cx.2.1 dX2_nameIndex_21 rfl (lv_at hl 2 rfl) ?_
          exact hp_iret cx hw (cd_ret hj (congrArg some (KR _ (Option.some.inj h).symm))) dX2_nameIndex_22
  obtain ⟨q2, e_q2, h⟩ := md_ob h
  refine L2 n _ hj σ0 a1 0 q2 _ _ _ e_q2 hw (lv_sub hl [1, 2, 0] rfl) (fun t2 hq2 ca hj H locs ls hw hl => ?_) (fun r hr => by subst hr; exact Option.some.inj h)
  subst hq2
  have h := md_inr h
  refine lv_aload_n cx.1 cx.2.1 dX2_nameIndex_29 rfl (lv_at hl 0 rfl) ?_
  refine cd_gI (o := 2) (k := 14) (f := 78) hj cx hw hic2 rfl ⟨by decide, rfl, by decide, rfl⟩ rfl (by decide) (List.mem_cons_of_mem _ cm_382) dX2_nameIndex_30 ?_
  refine lv_sipush (v := 400) cx.1 cx.2.1 dX2_nameIndex_33 (by decide) ?_
  refine lv_icmp_ge (tgt := 59) cx.1 cx.2.1 dX2_nameIndex_36 (by decide) (fun c36 => ?_) (fun c36 => ?_)
  · have h := md_ip c36 h
    exact J59 _ hj t2.1 _ _ _ h hw (lv_sub hl [0] rfl)
  · have h := md_in c36 h
    refine lv_aload_n cx.1 cx.2.1 dX2_nameIndex_39 rfl (lv_at hl 0 rfl) ?_
    refine cd_gA (o := 2) (k := 13) (f := 77) hj cx hw hic2 rfl ⟨by decide, rfl, by decide, rfl⟩ rfl (by decide) (List.mem_cons_of_mem _ cm_383) dX2_nameIndex_40 ?_
    refine lv_aload_n cx.1 cx.2.1 dX2_nameIndex_43 rfl (lv_at hl 0 rfl) ?_
    refine cd_gI (o := 2) (k := 14) (f := 78) hj cx hw hic2 rfl ⟨by decide, rfl, by decide, rfl⟩ rfl (by decide) (List.mem_cons_of_mem _ cm_382) dX2_nameIndex_44 ?_
    refine lv_lload_n cx.1 cx.2.1 dX2_nameIndex_47 rfl (lv_at hl 1 rfl) ?_
    obtain ⟨σ3, e_σ3, h⟩ := md_ob h
    refine cd_sJ (f := 77) hj cx hw (by decide) (by decide) rfl e_σ3 dX2_nameIndex_48 (fun H locs hw => ?_)
    refine lv_aload_n cx.1 cx.2.1 dX2_nameIndex_49 rfl (lv_at hl 0 rfl) ?_
    refine lv_dup cx.1 cx.2.1 dX2_nameIndex_50 rfl ?_
    refine cd_gI (o := 2) (k := 14) (f := 78) hj cx hw hic2 rfl ⟨by decide, rfl, by decide, rfl⟩ rfl (by decide) (List.mem_cons_of_mem _ cm_382) dX2_nameIndex_51 ?_
    refine lv_iconst (v := 1) cx.1 cx.2.1 dX2_nameIndex_54 (by decide) ?_
    refine lv_iadd cx.1 cx.2.1 dX2_nameIndex_55 ?_
    obtain ⟨σ4, e_σ4, h⟩ := md_ob h
    refine cd_pI (o := 2) (k := 14) (f := 78) hj cx hw hic2 rfl ⟨by decide, rfl, by decide, rfl⟩ tyX2_ok nmX2 rfl (by decide) rfl (List.mem_cons_of_mem _ cm_382) rfl e_σ4 dX2_nameIndex_56 (fun H locs hw => ?_)
    exact J59 _ hj σ4 _ _ _ h hw (lv_sub hl [0] rfl)
set_option maxHeartbeats 4000000 in
set_option maxRecDepth 100000 in
theorem kc_X2_groupOf (l : Launch) (D : va_G) (cA : Nat → ClassId) (E : hp_N) (sz : Nat) (ad : Nat → Nat → Nat) (ca0 : Nat → Nat) (hj : cd_inj ad ca0) (oq sgq sgv : Nat) (hE : cd_E E oq sgq sgv) (n : Nat) (σ0 : cd_S) (a1 : Int32) (a2 : Int64) (a4 : Int32) (p : (Int32 × cd_S)) (h : f_X2_groupOf n σ0 a1 a2 a4 = some p) : Met l yX2_groupOf (Cond.code yX2_groupOf cX2_groupOf 7 (some .int) :: v_CLS) ({ frames := 0, cells := 0, slots := 0, locals := 0 }) (hp_Pc D vwCl (hp_Tl cA) E sz (cd_pic cA ad ca0 σ0) [.ref (ad 2 0), .int a1, .long a2, .int a4]) (hp_Qi D vwCl (hp_Tl cA) sz (cd_pic cA ad ca0 σ0) (fun r u => r = p.1 ∧ ∃ ca1, cd_inj ad ca1 ∧ u = cd_pic cA ad ca1 p.2)) 0 0 (hp_A (cd_pic cA ad ca0 σ0) sz) := by
  refine hp_ofW (cc := cX2_groupOf) (maxL := 7) (ret := (some .int)) (by decide) rfl (Nat.le_of_ble_eq_true rfl) ?_
  intro pp ee ss mm bb mt cd ls cx hsz hw hl
  have hl : lv_has ls 7 [(0, .ref (ad 2 0)), (1, .int a1), (2, .long a2), (4, .int a4)] := hl
  refine lv_iconst (v := 0) cx.1 cx.2.1 dX2_groupOf_0 (by decide) ?_
  refine lv_istore (lv' := [(5, .int 0), (0, .ref (ad 2 0)), (1, .int a1), (2, .long a2), (4, .int a4)]) cx.1 cx.2.1 dX2_groupOf_1 hl (by decide) rfl (fun ls hl => ?_)
  have L3 : ∀ (j : Nat) (ca : Nat → Nat) (hj : cd_inj ad ca) (σ : cd_S) (l1 : Int32) (l2 : Int64) (l4 : Int32) (l5 : Int32) (q : ((Int32 × cd_S) ⊕ (cd_S × Int32))) (H : Heap) (locs : List Loc) (ls : Array Slot), f_X2_groupOf_L3 n l1 l2 l4 j σ l5 = some q → hp_w D vwCl (hp_Tl cA) E (hp_A (cd_pic cA ad ca0 σ0) sz) ss H locs (cd_pic cA ad ca σ) → lv_has ls 7 [(0, .ref (ad 2 0)), (1, .int l1), (2, .long l2), (4, .int l4), (5, .int l5)] → (∀ t, q = Sum.inr t → (∀ (ca : Nat → Nat) (hj : cd_inj ad ca) (H : Heap) (locs : List Loc) (ls : Array Slot), hp_w D vwCl (hp_Tl cA) E (hp_A (cd_pic cA ad ca0 σ0) sz) ss H locs (cd_pic cA ad ca t.1) → lv_has ls 7 [] → W pp l ee ({ frames := 0, cells := 0, slots := 0, locals := 0 }) ss mm [.ref (ad 2 0), .int a1, .long a2, .int a4].toArray bb mt cd H locs 0 0 (MQ bb (hp_Qi D vwCl (hp_Tl cA) sz (cd_pic cA ad ca0 σ0) (fun r u => r = p.1 ∧ ∃ ca1, cd_inj ad ca1 ∧ u = cd_pic cA ad ca1 p.2)) [.ref (ad 2 0), .int a1, .long a2, .int a4].toArray ss 0 0 (hp_A (cd_pic cA ad ca0 σ0) sz)) (F0 mm 64 ls []))) → (∀ r, q = Sum.inl r → r = p) → W pp l ee ({ frames := 0, cells := 0, slots := 0, locals := 0 }) ss mm [.ref (ad 2 0), .int a1, .long a2, .int a4].toArray bb mt cd H locs 0 0 (MQ bb (hp_Qi D vwCl (hp_Tl cA) sz (cd_pic cA ad ca0 σ0) (fun r u => r = p.1 ∧ ∃ ca1, cd_inj ad ca1 ∧ u = cd_pic cA ad ca1 p.2)) [.ref (ad 2 0), .int a1, .long a2, .int a4].toArray ss 0 0 (hp_A (cd_pic cA ad ca0 σ0) sz)) (F0 mm 3 ls []) := by
    intro j
    induction j with
    | zero => intro ca hj σ l1 l2 l4 l5 q H locs ls h; exact nomatch h
    | succ j ih =>
      intro ca hj σ l1 l2 l4 l5 q H locs ls h hw hl K KR
      unfold f_X2_groupOf_L3 at h
      have J58 : ∀ (ca : Nat → Nat) (hj : cd_inj ad ca) (σ : cd_S) (l5 : Int32) (H : Heap) (locs : List Loc) (ls : Array Slot), f_X2_groupOf_J58 n l1 l2 l4 (f_X2_groupOf_L3 n l1 l2 l4 j) σ l5 = some q → hp_w D vwCl (hp_Tl cA) E (hp_A (cd_pic cA ad ca0 σ0) sz) ss H locs (cd_pic cA ad ca σ) → lv_has ls 7 [(0, .ref (ad 2 0)), (1, .int l1), (2, .long l2), (4, .int l4), (5, .int l5)] → W pp l ee ({ frames := 0, cells := 0, slots := 0, locals := 0 }) ss mm [.ref (ad 2 0), .int a1, .long a2, .int a4].toArray bb mt cd H locs 0 0 (MQ bb (hp_Qi D vwCl (hp_Tl cA) sz (cd_pic cA ad ca0 σ0) (fun r u => r = p.1 ∧ ∃ ca1, cd_inj ad ca1 ∧ u = cd_pic cA ad ca1 p.2)) [.ref (ad 2 0), .int a1, .long a2, .int a4].toArray ss 0 0 (hp_A (cd_pic cA ad ca0 σ0) sz)) (F0 mm 58 ls []) := by
        intro ca hj σ l5 H locs ls h hw hl
        refine lv_iinc (v := (l5 + 1)) (lv' := [(5, .int (l5 + 1)), (0, .ref (ad 2 0)), (1, .int l1), (2, .long l2), (4, .int l4)]) cx.1 cx.2.1 dX2_groupOf_58 hl (k := 4) rfl rfl (by decide) rfl (fun ls hl => ?_)
        refine lv_goto (tgt := 3) cx.1 cx.2.1 dX2_groupOf_61 (by decide) ?_
        exact ih _ hj σ l1 l2 l4 ((l5 + 1)) q _ _ _ h hw (lv_sub hl [1, 2, 3, 4, 0] rfl) K KR
      refine lv_iload cx.1 cx.2.1 dX2_groupOf_3 (lv_at hl 4 rfl) ?_
      refine lv_aload_n cx.1 cx.2.1 dX2_groupOf_5 rfl (lv_at hl 0 rfl) ?_
      refine cd_gI (o := 2) (k := 2) (f := 66) hj cx hw hic2 rfl ⟨by decide, rfl, by decide, rfl⟩ rfl (by decide) (List.mem_cons_of_mem _ cm_531) dX2_groupOf_6 ?_
      refine lv_icmp_ge (tgt := 64) cx.1 cx.2.1 dX2_groupOf_9 (by decide) (fun c9 => ?_) (fun c9 => ?_)
      · have h := md_ip c9 h
        exact K _ (Option.some.inj h).symm _ hj _ _ _ hw (lv_sub hl [] rfl)
      · have h := md_in c9 h
        refine lv_aload_n cx.1 cx.2.1 dX2_groupOf_12 rfl (lv_at hl 0 rfl) ?_
        refine cd_gA (o := 2) (k := 1) (f := 65) hj cx hw hic2 rfl ⟨by decide, rfl, by decide, rfl⟩ rfl (by decide) (List.mem_cons_of_mem _ cm_274) dX2_groupOf_13 ?_
        refine lv_iload cx.1 cx.2.1 dX2_groupOf_16 (lv_at hl 4 rfl) ?_
        obtain ⟨u1, e_u1, h⟩ := md_ob h
        have hb_u1 : u1 < 60 := (cd_ldRs e_u1).2.2
        refine cd_lR (f := 65) (o2 := 9) hj cx hw (by decide) (by decide) rfl (by decide) rfl rfl e_u1 dX2_groupOf_18 ?_
        refine lv_astore (lv' := [(6, .ref (ad 9 u1)), (0, .ref (ad 2 0)), (1, .int l1), (2, .long l2), (4, .int l4), (5, .int l5)]) cx.1 cx.2.1 dX2_groupOf_19 hl (by decide) rfl (fun ls hl => ?_)
        refine lv_aload cx.1 cx.2.1 dX2_groupOf_21 (lv_at hl 0 rfl) ?_
        refine cd_gI (o := 9) (k := 1) (f := 289) hj cx hw hic9 rfl ⟨by decide, rfl, by decide, rfl⟩ rfl (show _ < 60 by omega) (List.mem_cons_of_mem _ cm_556) dX2_groupOf_23 ?_
        refine lv_iload_n cx.1 cx.2.1 dX2_groupOf_26 rfl (lv_at hl 2 rfl) ?_
        refine lv_icmp_ne (tgt := 58) cx.1 cx.2.1 dX2_groupOf_27 (by decide) (fun c27 => ?_) (fun c27 => ?_)
        · have h := md_in c27 h
          exact J58 _ hj σ l5 _ _ _ h hw (lv_sub hl [1, 2, 3, 4, 5] rfl)
        · have h := md_ip c27 h
          refine lv_aload cx.1 cx.2.1 dX2_groupOf_30 (lv_at hl 0 rfl) ?_
          refine cd_gI (o := 9) (k := 6) (f := 294) hj cx hw hic9 rfl ⟨by decide, rfl, by decide, rfl⟩ rfl (show _ < 60 by omega) (List.mem_cons_of_mem _ cm_396) dX2_groupOf_32 ?_
          refine lv_iload cx.1 cx.2.1 dX2_groupOf_35 (lv_at hl 4 rfl) ?_
          refine lv_icmp_ne (tgt := 58) cx.1 cx.2.1 dX2_groupOf_37 (by decide) (fun c37 => ?_) (fun c37 => ?_)
          · have h := md_in c37 h
            exact J58 _ hj σ l5 _ _ _ h hw (lv_sub hl [1, 2, 3, 4, 5] rfl)
          · have h := md_ip c37 h
            refine lv_iload_n cx.1 cx.2.1 dX2_groupOf_40 rfl (lv_at hl 2 rfl) ?_
            refine lv_iconst (v := 1) cx.1 cx.2.1 dX2_groupOf_41 (by decide) ?_
            refine lv_icmp_eq (tgt := 55) cx.1 cx.2.1 dX2_groupOf_42 (by decide) (fun c42 => ?_) (fun c42 => ?_)
            · have h := md_ip c42 h
              refine lv_iload cx.1 cx.2.1 dX2_groupOf_55 (lv_at hl 5 rfl) ?_
              exact hp_iret cx hw (cd_ret hj (congrArg some (KR _ (Option.some.inj h).symm))) dX2_groupOf_57
            · have h := md_in c42 h
              refine lv_aload cx.1 cx.2.1 dX2_groupOf_45 (lv_at hl 0 rfl) ?_
              refine cd_gJ (o := 9) (k := 5) (f := 293) hj cx hw hic9 rfl ⟨by decide, rfl, by decide, rfl⟩ rfl (show _ < 60 by omega) (List.mem_cons_of_mem _ cm_395) dX2_groupOf_47 ?_
              refine lv_lload_n cx.1 cx.2.1 dX2_groupOf_50 rfl (lv_at hl 3 rfl) ?_
              refine W.lcmp cx.1 cx.2.1 dX2_groupOf_51 ?_
              refine lv_if_ne (tgt := 58) cx.1 cx.2.1 dX2_groupOf_52 (by decide) (fun c52 => ?_) (fun c52 => ?_)
              · have h := md_in c52 h
                exact J58 _ hj σ l5 _ _ _ h hw (lv_sub hl [1, 2, 3, 4, 5] rfl)
              · have h := md_ip c52 h
                refine lv_iload cx.1 cx.2.1 dX2_groupOf_55 (lv_at hl 5 rfl) ?_
                exact hp_iret cx hw (cd_ret hj (congrArg some (KR _ (Option.some.inj h).symm))) dX2_groupOf_57
  obtain ⟨q2, e_q2, h⟩ := md_ob h
  refine L3 n _ hj σ0 a1 a2 a4 0 q2 _ _ _ e_q2 hw (lv_sub hl [1, 2, 3, 4, 0] rfl) (fun t2 hq2 ca hj H locs ls hw hl => ?_) (fun r hr => by subst hr; exact Option.some.inj h)
  subst hq2
  have h := md_inr h
  refine lv_iconst (v := (-1)) cx.1 cx.2.1 dX2_groupOf_64 (by decide) ?_
  exact hp_iret cx hw (cd_ret hj h) dX2_groupOf_65
set_option maxHeartbeats 4000000 in
set_option maxRecDepth 100000 in
theorem kc_X2_settleGroups (l : Launch) (D : va_G) (cA : Nat → ClassId) (E : hp_N) (sz : Nat) (ad : Nat → Nat → Nat) (ca0 : Nat → Nat) (hj : cd_inj ad ca0) (oq sgq sgv : Nat) (hE : cd_E E oq sgq sgv) (n : Nat) (σ0 : cd_S) (p : (Int32 × cd_S)) (h : f_X2_settleGroups n σ0 = some p) : Met l yX2_settleGroups (Cond.code yX2_settleGroups cX2_settleGroups 4 none :: v_CLS) ({ frames := 1, cells := 0, slots := 0, locals := 26 }) (hp_Pc D vwCl (hp_Tl cA) E sz (cd_pic cA ad ca0 σ0) [.ref (ad 2 0)]) (hp_Qv D vwCl (hp_Tl cA) sz (cd_pic cA ad ca0 σ0) (fun u => ∃ ca1, cd_inj ad ca1 ∧ u = cd_pic cA ad ca1 p.2)) 0 0 (hp_A (cd_pic cA ad ca0 σ0) sz) := by
  refine hp_ofW (cc := cX2_settleGroups) (maxL := 4) (ret := none) (by decide) rfl (Nat.le_of_ble_eq_true rfl) ?_
  intro pp ee ss mm bb mt cd ls cx hsz hw hl
  have hl : lv_has ls 4 [(0, .ref (ad 2 0))] := hl
  refine lv_iconst (v := 0) cx.1 cx.2.1 dX2_settleGroups_0 (by decide) ?_
  refine lv_istore_n (lv' := [(1, .int 0), (0, .ref (ad 2 0))]) cx.1 cx.2.1 dX2_settleGroups_1 rfl hl (by decide) rfl (fun ls hl => ?_)
  have L2 : ∀ (j : Nat) (ca : Nat → Nat) (hj : cd_inj ad ca) (σ : cd_S) (l1 : Int32) (q : (cd_S × Int32)) (H : Heap) (locs : List Loc) (ls : Array Slot), f_X2_settleGroups_L2 n j σ l1 = some q → hp_w D vwCl (hp_Tl cA) E (hp_A (cd_pic cA ad ca0 σ0) sz) ss H locs (cd_pic cA ad ca σ) → lv_has ls 4 [(0, .ref (ad 2 0)), (1, .int l1)] → (∀ (ca : Nat → Nat) (hj : cd_inj ad ca) (H : Heap) (locs : List Loc) (ls : Array Slot), hp_w D vwCl (hp_Tl cA) E (hp_A (cd_pic cA ad ca0 σ0) sz) ss H locs (cd_pic cA ad ca q.1) → lv_has ls 4 [] → W pp l ee ({ frames := 1, cells := 0, slots := 0, locals := 26 }) ss mm [.ref (ad 2 0)].toArray bb mt cd H locs 0 0 (MQ bb (hp_Qv D vwCl (hp_Tl cA) sz (cd_pic cA ad ca0 σ0) (fun u => ∃ ca1, cd_inj ad ca1 ∧ u = cd_pic cA ad ca1 p.2)) [.ref (ad 2 0)].toArray ss 0 0 (hp_A (cd_pic cA ad ca0 σ0) sz)) (F0 mm 72 ls [])) → W pp l ee ({ frames := 1, cells := 0, slots := 0, locals := 26 }) ss mm [.ref (ad 2 0)].toArray bb mt cd H locs 0 0 (MQ bb (hp_Qv D vwCl (hp_Tl cA) sz (cd_pic cA ad ca0 σ0) (fun u => ∃ ca1, cd_inj ad ca1 ∧ u = cd_pic cA ad ca1 p.2)) [.ref (ad 2 0)].toArray ss 0 0 (hp_A (cd_pic cA ad ca0 σ0) sz)) (F0 mm 2 ls []) := by
    intro j
    induction j with
    | zero => intro ca hj σ l1 q H locs ls h; exact nomatch h
    | succ j ih =>
      intro ca hj σ l1 q H locs ls h hw hl K
      unfold f_X2_settleGroups_L2 at h
      have J63 : ∀ (ca : Nat → Nat) (hj : cd_inj ad ca) (σ : cd_S) (l1 : Int32) (t0 : Int32) (t1 : Nat) (H : Heap) (locs : List Loc) (ls : Array Slot), t1 < 60 → f_X2_settleGroups_J63 n (f_X2_settleGroups_L2 n j) σ l1 t0 t1 = some q → hp_w D vwCl (hp_Tl cA) E (hp_A (cd_pic cA ad ca0 σ0) sz) ss H locs (cd_pic cA ad ca σ) → lv_has ls 4 [(0, .ref (ad 2 0)), (1, .int l1)] → W pp l ee ({ frames := 1, cells := 0, slots := 0, locals := 26 }) ss mm [.ref (ad 2 0)].toArray bb mt cd H locs 0 0 (MQ bb (hp_Qv D vwCl (hp_Tl cA) sz (cd_pic cA ad ca0 σ0) (fun u => ∃ ca1, cd_inj ad ca1 ∧ u = cd_pic cA ad ca1 p.2)) [.ref (ad 2 0)].toArray ss 0 0 (hp_A (cd_pic cA ad ca0 σ0) sz)) (F0 mm 63 ls [.int t0, .ref (ad 9 t1)]) := by
        intro ca hj σ l1 t0 t1 H locs ls hb_t1 h hw hl
        obtain ⟨σ1, e_σ1, h⟩ := md_ob h
        refine cd_pI (o := 9) (k := 9) (f := 297) hj cx hw hic9 rfl ⟨by decide, rfl, by decide, rfl⟩ tyX9_ok nmX9 rfl (show _ < 60 by omega) rfl (List.mem_cons_of_mem _ cm_561) rfl e_σ1 dX2_settleGroups_63 (fun H locs hw => ?_)
        refine lv_iinc (v := (l1 + 1)) (lv' := [(1, .int (l1 + 1)), (0, .ref (ad 2 0))]) cx.1 cx.2.1 dX2_settleGroups_66 hl (k := 1) rfl rfl (by decide) rfl (fun ls hl => ?_)
        refine lv_goto (tgt := 2) cx.1 cx.2.1 dX2_settleGroups_69 (by decide) ?_
        exact ih _ hj σ1 ((l1 + 1)) q _ _ _ h hw (lv_sub hl [1, 0] rfl) K
      have J37 : ∀ (ca : Nat → Nat) (hj : cd_inj ad ca) (σ : cd_S) (l1 : Int32) (l2 : Nat) (t0 : Int32) (H : Heap) (locs : List Loc) (ls : Array Slot), l2 < 60 → f_X2_settleGroups_J37 n (f_X2_settleGroups_L2 n j) σ l1 l2 t0 = some q → hp_w D vwCl (hp_Tl cA) E (hp_A (cd_pic cA ad ca0 σ0) sz) ss H locs (cd_pic cA ad ca σ) → lv_has ls 4 [(0, .ref (ad 2 0)), (1, .int l1), (2, .ref (ad 9 l2))] → W pp l ee ({ frames := 1, cells := 0, slots := 0, locals := 26 }) ss mm [.ref (ad 2 0)].toArray bb mt cd H locs 0 0 (MQ bb (hp_Qv D vwCl (hp_Tl cA) sz (cd_pic cA ad ca0 σ0) (fun u => ∃ ca1, cd_inj ad ca1 ∧ u = cd_pic cA ad ca1 p.2)) [.ref (ad 2 0)].toArray ss 0 0 (hp_A (cd_pic cA ad ca0 σ0) sz)) (F0 mm 37 ls [.int t0]) := by
        intro ca hj σ l1 l2 t0 H locs ls hb_l2 h hw hl
        refine lv_istore_n (lv' := [(3, .int t0), (0, .ref (ad 2 0)), (1, .int l1), (2, .ref (ad 9 l2))]) cx.1 cx.2.1 dX2_settleGroups_37 rfl hl (by decide) rfl (fun ls hl => ?_)
        refine lv_aload_n cx.1 cx.2.1 dX2_settleGroups_38 rfl (lv_at hl 3 rfl) ?_
        refine lv_iload_n cx.1 cx.2.1 dX2_settleGroups_39 rfl (lv_at hl 0 rfl) ?_
        refine lv_if_eq (tgt := 62) cx.1 cx.2.1 dX2_settleGroups_40 (by decide) (fun c40 => ?_) (fun c40 => ?_)
        · have h := md_ip c40 h
          refine lv_iload_n cx.1 cx.2.1 dX2_settleGroups_62 rfl (lv_at hl 2 rfl) ?_
          exact J63 _ hj σ l1 l1 l2 _ _ _ (by omega) h hw (lv_sub hl [1, 2] rfl)
        · have h := md_in c40 h
          refine lv_aload_n cx.1 cx.2.1 dX2_settleGroups_43 rfl (lv_at hl 1 rfl) ?_
          refine lv_aload_n cx.1 cx.2.1 dX2_settleGroups_44 rfl (lv_at hl 3 rfl) ?_
          refine cd_gI (o := 9) (k := 1) (f := 289) hj cx hw hic9 rfl ⟨by decide, rfl, by decide, rfl⟩ rfl (show _ < 60 by omega) (List.mem_cons_of_mem _ cm_556) dX2_settleGroups_45 ?_
          refine lv_aload_n cx.1 cx.2.1 dX2_settleGroups_48 rfl (lv_at hl 3 rfl) ?_
          refine cd_gJ (o := 9) (k := 5) (f := 293) hj cx hw hic9 rfl ⟨by decide, rfl, by decide, rfl⟩ rfl (show _ < 60 by omega) (List.mem_cons_of_mem _ cm_395) dX2_settleGroups_49 ?_
          refine lv_aload_n cx.1 cx.2.1 dX2_settleGroups_52 rfl (lv_at hl 3 rfl) ?_
          refine cd_gI (o := 9) (k := 6) (f := 294) hj cx hw hic9 rfl ⟨by decide, rfl, by decide, rfl⟩ rfl (show _ < 60 by omega) (List.mem_cons_of_mem _ cm_396) dX2_settleGroups_53 ?_
          obtain ⟨p2, e_p2, h⟩ := md_ob h
          refine hp_callVi (As := [.int (cI σ 289 l2), .long (cJ σ 293 l2), .int (cI σ 294 l2)]) (rest := [.ref (ad 9 l2)]) cx hw (kc_X2_groupOf l D cA E _ ad _ hj oq sgq sgv hE n σ ((cI σ 289 l2)) ((cJ σ 293 l2)) ((cI σ 294 l2)) p2 e_p2) (cwV 3 cx.2.2.2.2.2.1 (cd_giV cm_557 cm_558 cm_559 cm_167 cm_560) rfl rfl rfl hdc_X2_groupOf ⟨Nat.le_of_ble_eq_true rfl, Nat.le_of_ble_eq_true rfl⟩) (cd_atO hj (by decide) (by decide)) rfl rfl hl.1 rfl (Nat.le_of_ble_eq_true rfl) dX2_settleGroups_56 ⟨Nat.le_refl _, Nat.le_refl _⟩ (fun r u H locs hp hw => ?_)
          obtain ⟨rfl, ca, hj, rfl⟩ := hp
          refine lv_goto (tgt := 63) cx.1 cx.2.1 dX2_settleGroups_59 (by decide) ?_
          exact J63 _ hj p2.2 l1 (p2.1) l2 _ _ _ (by omega) h hw (lv_sub hl [1, 2] rfl)
      have J32 : ∀ (ca : Nat → Nat) (hj : cd_inj ad ca) (σ : cd_S) (l1 : Int32) (l2 : Nat) (H : Heap) (locs : List Loc) (ls : Array Slot), l2 < 60 → f_X2_settleGroups_J32 n (f_X2_settleGroups_L2 n j) σ l1 l2 = some q → hp_w D vwCl (hp_Tl cA) E (hp_A (cd_pic cA ad ca0 σ0) sz) ss H locs (cd_pic cA ad ca σ) → lv_has ls 4 [(0, .ref (ad 2 0)), (1, .int l1), (2, .ref (ad 9 l2))] → W pp l ee ({ frames := 1, cells := 0, slots := 0, locals := 26 }) ss mm [.ref (ad 2 0)].toArray bb mt cd H locs 0 0 (MQ bb (hp_Qv D vwCl (hp_Tl cA) sz (cd_pic cA ad ca0 σ0) (fun u => ∃ ca1, cd_inj ad ca1 ∧ u = cd_pic cA ad ca1 p.2)) [.ref (ad 2 0)].toArray ss 0 0 (hp_A (cd_pic cA ad ca0 σ0) sz)) (F0 mm 32 ls []) := by
        intro ca hj σ l1 l2 H locs ls hb_l2 h hw hl
        refine lv_iconst (v := 1) cx.1 cx.2.1 dX2_settleGroups_32 (by decide) ?_
        refine lv_goto (tgt := 37) cx.1 cx.2.1 dX2_settleGroups_33 (by decide) ?_
        exact J37 _ hj σ l1 l2 1 _ _ _ (by omega) h hw (lv_sub hl [0, 1, 2] rfl)
      refine lv_iload_n cx.1 cx.2.1 dX2_settleGroups_2 rfl (lv_at hl 1 rfl) ?_
      refine lv_aload_n cx.1 cx.2.1 dX2_settleGroups_3 rfl (lv_at hl 0 rfl) ?_
      refine cd_gI (o := 2) (k := 2) (f := 66) hj cx hw hic2 rfl ⟨by decide, rfl, by decide, rfl⟩ rfl (by decide) (List.mem_cons_of_mem _ cm_531) dX2_settleGroups_4 ?_
      refine lv_icmp_ge (tgt := 72) cx.1 cx.2.1 dX2_settleGroups_7 (by decide) (fun c7 => ?_) (fun c7 => ?_)
      · have h := md_ip c7 h
        obtain rfl := Option.some.inj h
        exact K _ hj _ _ _ hw (lv_sub hl [] rfl)
      · have h := md_in c7 h
        refine lv_aload_n cx.1 cx.2.1 dX2_settleGroups_10 rfl (lv_at hl 0 rfl) ?_
        refine cd_gA (o := 2) (k := 1) (f := 65) hj cx hw hic2 rfl ⟨by decide, rfl, by decide, rfl⟩ rfl (by decide) (List.mem_cons_of_mem _ cm_274) dX2_settleGroups_11 ?_
        refine lv_iload_n cx.1 cx.2.1 dX2_settleGroups_14 rfl (lv_at hl 1 rfl) ?_
        obtain ⟨u3, e_u3, h⟩ := md_ob h
        have hb_u3 : u3 < 60 := (cd_ldRs e_u3).2.2
        refine cd_lR (f := 65) (o2 := 9) hj cx hw (by decide) (by decide) rfl (by decide) rfl rfl e_u3 dX2_settleGroups_15 ?_
        refine lv_astore_n (lv' := [(2, .ref (ad 9 u3)), (0, .ref (ad 2 0)), (1, .int l1)]) cx.1 cx.2.1 dX2_settleGroups_16 rfl hl (by decide) rfl (fun ls hl => ?_)
        refine lv_aload_n cx.1 cx.2.1 dX2_settleGroups_17 rfl (lv_at hl 0 rfl) ?_
        refine cd_gI (o := 9) (k := 1) (f := 289) hj cx hw hic9 rfl ⟨by decide, rfl, by decide, rfl⟩ rfl (show _ < 60 by omega) (List.mem_cons_of_mem _ cm_556) dX2_settleGroups_18 ?_
        refine lv_if_eq (tgt := 32) cx.1 cx.2.1 dX2_settleGroups_21 (by decide) (fun c21 => ?_) (fun c21 => ?_)
        · have h := md_ip c21 h
          exact J32 _ hj σ l1 u3 _ _ _ (by omega) h hw (lv_sub hl [1, 2, 0] rfl)
        · have h := md_in c21 h
          refine lv_aload_n cx.1 cx.2.1 dX2_settleGroups_24 rfl (lv_at hl 0 rfl) ?_
          refine cd_gI (o := 9) (k := 1) (f := 289) hj cx hw hic9 rfl ⟨by decide, rfl, by decide, rfl⟩ rfl (show _ < 60 by omega) (List.mem_cons_of_mem _ cm_556) dX2_settleGroups_25 ?_
          refine lv_iconst (v := 1) cx.1 cx.2.1 dX2_settleGroups_28 (by decide) ?_
          refine lv_icmp_ne (tgt := 36) cx.1 cx.2.1 dX2_settleGroups_29 (by decide) (fun c29 => ?_) (fun c29 => ?_)
          · have h := md_in c29 h
            refine lv_iconst (v := 0) cx.1 cx.2.1 dX2_settleGroups_36 (by decide) ?_
            exact J37 _ hj σ l1 u3 0 _ _ _ (by omega) h hw (lv_sub hl [1, 2, 0] rfl)
          · have h := md_ip c29 h
            exact J32 _ hj σ l1 u3 _ _ _ (by omega) h hw (lv_sub hl [1, 2, 0] rfl)
  obtain ⟨q4, e_q4, h⟩ := md_ob h
  refine L2 n _ hj σ0 0 q4 _ _ _ e_q4 hw (lv_sub hl [1, 0] rfl) (fun ca hj H locs ls hw hl => ?_)
  exact hp_vret cx hw ((cd_ret hj h).2) dX2_settleGroups_72
