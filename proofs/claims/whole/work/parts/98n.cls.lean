set_option maxHeartbeats 4000000 in
set_option maxRecDepth 100000 in
theorem kc_X9_tell (l : Launch) (D : va_G) (cA : Nat → ClassId) (E : hp_N) (sz : Nat) (ad : Nat → Nat → Nat) (ca0 : Nat → Nat) (hj : cd_inj ad ca0) (oq sgq sgv : Nat) (hE : cd_E E oq sgq sgv) (n : Nat) (σ0 : cd_S) (a0 : Nat) (a1 : Int32) (hb_a0 : a0 < 60) (p : (Int32 × cd_S)) (h : f_X9_tell n σ0 a0 a1 = some p) : Met l yX9_tell (Cond.code yX9_tell cX9_tell 2 (some .int) :: v_CLS) ({ frames := 1, cells := 0, slots := 0, locals := 20 }) (hp_Pc D vwCl (hp_Tl cA) E sz (cd_pic cA ad ca0 σ0) [.ref (ad 9 a0), .int a1]) (hp_Qi D vwCl (hp_Tl cA) sz (cd_pic cA ad ca0 σ0) (fun r u => r = p.1 ∧ ∃ ca1, cd_inj ad ca1 ∧ u = cd_pic cA ad ca1 p.2)) 0 0 (hp_A (cd_pic cA ad ca0 σ0) sz) := by
  refine hp_ofW (cc := cX9_tell) (maxL := 2) (ret := (some .int)) (by decide) rfl (Nat.le_of_ble_eq_true rfl) ?_
  intro pp ee ss mm bb mt cd ls cx hsz hw hl
  have hl : lv_has ls 2 [(0, .ref (ad 9 a0)), (1, .int a1)] := hl
  refine lv_iload_n cx.1 cx.2.1 dX9_tell_0 rfl (lv_at hl 1 rfl) ?_
  by_cases c1_0 : a1 = 0
  · refine lv_tableIn (off := 51) (tgt := 52) cx.1 cx.2.1 dX9_tell_1 (by rw [c1_0]; decide) (by rw [c1_0]; decide) (by rw [c1_0]; decide) (by decide) ?_
    have h := md_ip c1_0 h
    refine lv_aload_n cx.1 cx.2.1 dX9_tell_52 rfl (lv_at hl 0 rfl) ?_
    refine cd_gI (o := 9) (k := 1) (f := 289) hj cx hw hic9 rfl ⟨by decide, rfl, by decide, rfl⟩ rfl (show _ < 60 by omega) (List.mem_cons_of_mem _ cm_534) dX9_tell_53 ?_
    exact hp_iret cx hw (cd_ret hj h) dX9_tell_56
  have h := md_in c1_0 h
  by_cases c1_1 : a1 = 1
  · refine lv_tableIn (off := 56) (tgt := 57) cx.1 cx.2.1 dX9_tell_1 (by rw [c1_1]; decide) (by rw [c1_1]; decide) (by rw [c1_1]; decide) (by decide) ?_
    have h := md_ip c1_1 h
    refine lv_aload_n cx.1 cx.2.1 dX9_tell_57 rfl (lv_at hl 0 rfl) ?_
    refine cd_gI (o := 9) (k := 2) (f := 290) hj cx hw hic9 rfl ⟨by decide, rfl, by decide, rfl⟩ rfl (show _ < 60 by omega) (List.mem_cons_of_mem _ cm_535) dX9_tell_58 ?_
    exact hp_iret cx hw (cd_ret hj h) dX9_tell_61
  have h := md_in c1_1 h
  by_cases c1_2 : a1 = 2
  · refine lv_tableIn (off := 61) (tgt := 62) cx.1 cx.2.1 dX9_tell_1 (by rw [c1_2]; decide) (by rw [c1_2]; decide) (by rw [c1_2]; decide) (by decide) ?_
    have h := md_ip c1_2 h
    refine lv_aload_n cx.1 cx.2.1 dX9_tell_62 rfl (lv_at hl 0 rfl) ?_
    refine cd_gI (o := 9) (k := 4) (f := 292) hj cx hw hic9 rfl ⟨by decide, rfl, by decide, rfl⟩ rfl (show _ < 60 by omega) (List.mem_cons_of_mem _ cm_536) dX9_tell_63 ?_
    exact hp_iret cx hw (cd_ret hj h) dX9_tell_66
  have h := md_in c1_2 h
  by_cases c1_3 : a1 = 3
  · refine lv_tableIn (off := 66) (tgt := 67) cx.1 cx.2.1 dX9_tell_1 (by rw [c1_3]; decide) (by rw [c1_3]; decide) (by rw [c1_3]; decide) (by decide) ?_
    have h := md_ip c1_3 h
    refine lv_aload_n cx.1 cx.2.1 dX9_tell_67 rfl (lv_at hl 0 rfl) ?_
    refine cd_gI (o := 9) (k := 6) (f := 294) hj cx hw hic9 rfl ⟨by decide, rfl, by decide, rfl⟩ rfl (show _ < 60 by omega) (List.mem_cons_of_mem _ cm_538) dX9_tell_68 ?_
    exact hp_iret cx hw (cd_ret hj h) dX9_tell_71
  have h := md_in c1_3 h
  by_cases c1_4 : a1 = 4
  · refine lv_tableIn (off := 71) (tgt := 72) cx.1 cx.2.1 dX9_tell_1 (by rw [c1_4]; decide) (by rw [c1_4]; decide) (by rw [c1_4]; decide) (by decide) ?_
    have h := md_ip c1_4 h
    refine lv_aload_n cx.1 cx.2.1 dX9_tell_72 rfl (lv_at hl 0 rfl) ?_
    refine cd_gI (o := 9) (k := 11) (f := 299) hj cx hw hic9 rfl ⟨by decide, rfl, by decide, rfl⟩ rfl (show _ < 60 by omega) (List.mem_cons_of_mem _ cm_97) dX9_tell_73 ?_
    exact hp_iret cx hw (cd_ret hj h) dX9_tell_76
  have h := md_in c1_4 h
  by_cases c1_5 : a1 = 5
  · refine lv_tableIn (off := 76) (tgt := 77) cx.1 cx.2.1 dX9_tell_1 (by rw [c1_5]; decide) (by rw [c1_5]; decide) (by rw [c1_5]; decide) (by decide) ?_
    have h := md_ip c1_5 h
    refine lv_aload_n cx.1 cx.2.1 dX9_tell_77 rfl (lv_at hl 0 rfl) ?_
    obtain ⟨p1, e_p1, h⟩ := md_ob h
    refine hp_callVi (As := []) (rest := []) cx hw (kc_X9_locals l D cA E _ ad _ hj oq sgq sgv hE n σ0 a0 (show _ < 60 by omega) p1 e_p1) (cwV 0 cx.2.2.2.2.2.1 (cd_giV cm_607 cm_112 cm_113 cm_114 cm_115) rfl rfl rfl hdc_X9_locals ⟨Nat.le_of_ble_eq_true rfl, Nat.le_of_ble_eq_true rfl⟩) (cd_atO hj (by decide) (show _ < 60 by omega)) rfl rfl hl.1 rfl (Nat.le_of_ble_eq_true rfl) dX9_tell_78 ⟨Nat.le_refl _, Nat.le_refl _⟩ (fun r u H locs hp hw => ?_)
    obtain ⟨rfl, ca, hj, rfl⟩ := hp
    exact hp_iret cx hw (cd_ret hj h) dX9_tell_81
  have h := md_in c1_5 h
  by_cases c1_6 : a1 = 6
  · refine lv_tableIn (off := 81) (tgt := 82) cx.1 cx.2.1 dX9_tell_1 (by rw [c1_6]; decide) (by rw [c1_6]; decide) (by rw [c1_6]; decide) (by decide) ?_
    have h := md_ip c1_6 h
    refine lv_aload_n cx.1 cx.2.1 dX9_tell_82 rfl (lv_at hl 0 rfl) ?_
    refine cd_gI (o := 9) (k := 13) (f := 301) hj cx hw hic9 rfl ⟨by decide, rfl, by decide, rfl⟩ rfl (show _ < 60 by omega) (List.mem_cons_of_mem _ cm_541) dX9_tell_83 ?_
    refine lv_if_eq (tgt := 93) cx.1 cx.2.1 dX9_tell_86 (by decide) (fun c86 => ?_) (fun c86 => ?_)
    · have h := md_ip c86 h
      refine lv_iconst (v := 0) cx.1 cx.2.1 dX9_tell_93 (by decide) ?_
      exact hp_iret cx hw (cd_ret hj h) dX9_tell_94
    · have h := md_in c86 h
      refine lv_iconst (v := 1) cx.1 cx.2.1 dX9_tell_89 (by decide) ?_
      refine lv_goto (tgt := 94) cx.1 cx.2.1 dX9_tell_90 (by decide) ?_
      exact hp_iret cx hw (cd_ret hj h) dX9_tell_94
  have h := md_in c1_6 h
  by_cases c1_7 : a1 = 7
  · refine lv_tableIn (off := 94) (tgt := 95) cx.1 cx.2.1 dX9_tell_1 (by rw [c1_7]; decide) (by rw [c1_7]; decide) (by rw [c1_7]; decide) (by decide) ?_
    have h := md_ip c1_7 h
    refine lv_aload_n cx.1 cx.2.1 dX9_tell_95 rfl (lv_at hl 0 rfl) ?_
    refine cd_gO (o2 := 6) (e2 := (18 + 3 * a0)) (o := 9) (k := 16) (f := 304) hj cx hw hic9 rfl ⟨by decide, rfl, by decide, rfl⟩ rfl (show _ < 60 by omega) ⟨rfl, rfl⟩ (List.mem_cons_of_mem _ cm_613) dX9_tell_96 ?_
    refine cd_gI (o := 6) (k := 1) (f := 193) hj cx hw hic6 rfl ⟨by decide, rfl, by decide, rfl⟩ rfl (show _ < 197 by omega) (List.mem_cons_of_mem _ cm_544) dX9_tell_99 ?_
    exact hp_iret cx hw (cd_ret hj h) dX9_tell_102
  have h := md_in c1_7 h
  by_cases c1_8 : a1 = 8
  · refine lv_tableIn (off := 102) (tgt := 103) cx.1 cx.2.1 dX9_tell_1 (by rw [c1_8]; decide) (by rw [c1_8]; decide) (by rw [c1_8]; decide) (by decide) ?_
    have h := md_ip c1_8 h
    refine lv_aload_n cx.1 cx.2.1 dX9_tell_103 rfl (lv_at hl 0 rfl) ?_
    refine cd_gO (o2 := 6) (e2 := (19 + 3 * a0)) (o := 9) (k := 17) (f := 305) hj cx hw hic9 rfl ⟨by decide, rfl, by decide, rfl⟩ rfl (show _ < 60 by omega) ⟨rfl, rfl⟩ (List.mem_cons_of_mem _ cm_597) dX9_tell_104 ?_
    refine cd_gI (o := 6) (k := 1) (f := 193) hj cx hw hic6 rfl ⟨by decide, rfl, by decide, rfl⟩ rfl (show _ < 197 by omega) (List.mem_cons_of_mem _ cm_544) dX9_tell_107 ?_
    exact hp_iret cx hw (cd_ret hj h) dX9_tell_110
  have h := md_in c1_8 h
  have nc1_0 := md_nei c1_0
  have nc1_1 := md_nei c1_1
  have nc1_2 := md_nei c1_2
  have nc1_3 := md_nei c1_3
  have nc1_4 := md_nei c1_4
  have nc1_5 := md_nei c1_5
  have nc1_6 := md_nei c1_6
  have nc1_7 := md_nei c1_7
  have nc1_8 := md_nei c1_8
  refine lv_tableOut (tgt := 111) cx.1 cx.2.1 dX9_tell_1 (by have := nc1_0; rw [show ((0 : Int32)).toInt = 0 from by decide] at this; have := nc1_1; rw [show ((1 : Int32)).toInt = 1 from by decide] at this; have := nc1_2; rw [show ((2 : Int32)).toInt = 2 from by decide] at this; have := nc1_3; rw [show ((3 : Int32)).toInt = 3 from by decide] at this; have := nc1_4; rw [show ((4 : Int32)).toInt = 4 from by decide] at this; have := nc1_5; rw [show ((5 : Int32)).toInt = 5 from by decide] at this; have := nc1_6; rw [show ((6 : Int32)).toInt = 6 from by decide] at this; have := nc1_7; rw [show ((7 : Int32)).toInt = 7 from by decide] at this; have := nc1_8; rw [show ((8 : Int32)).toInt = 8 from by decide] at this;  omega) (by decide) ?_
  refine lv_iconst (v := (-1)) cx.1 cx.2.1 dX9_tell_111 (by decide) ?_
  exact hp_iret cx hw (cd_ret hj h) dX9_tell_112
set_option maxHeartbeats 4000000 in
set_option maxRecDepth 100000 in
theorem kc_X10_isLetter (l : Launch) (D : va_G) (cA : Nat → ClassId) (E : hp_N) (sz : Nat) (ad : Nat → Nat → Nat) (ca0 : Nat → Nat) (hj : cd_inj ad ca0) (oq sgq sgv : Nat) (hE : cd_E E oq sgq sgv) (n : Nat) (σ0 : cd_S) (a0 : Int32) (p : (Int32 × cd_S)) (h : f_X10_isLetter n σ0 a0 = some p) : Met l yX10_isLetter (Cond.code yX10_isLetter cX10_isLetter 1 (some .boolean) :: v_CLS) ({ frames := 0, cells := 0, slots := 0, locals := 0 }) (hp_Pc D vwCl (hp_Tl cA) E sz (cd_pic cA ad ca0 σ0) [.int a0]) (hp_Qi D vwCl (hp_Tl cA) sz (cd_pic cA ad ca0 σ0) (fun r u => r = p.1 ∧ ∃ ca1, cd_inj ad ca1 ∧ u = cd_pic cA ad ca1 p.2)) 0 0 (hp_A (cd_pic cA ad ca0 σ0) sz) := by
  refine hp_ofW (cc := cX10_isLetter) (maxL := 1) (ret := (some .boolean)) (by decide) rfl (Nat.le_of_ble_eq_true rfl) ?_
  intro pp ee ss mm bb mt cd ls cx hsz hw hl
  have hl : lv_has ls 1 [(0, .int a0)] := hl
  refine lv_iload_n cx.1 cx.2.1 dX10_isLetter_0 rfl (lv_at hl 0 rfl) ?_
  refine lv_bipush (v := 97) cx.1 cx.2.1 dX10_isLetter_1 (by decide) ?_
  refine lv_icmp_lt (tgt := 16) cx.1 cx.2.1 dX10_isLetter_3 (by decide) (fun c3 => ?_) (fun c3 => ?_)
  · have h := md_ip c3 h
    refine lv_iconst (v := 0) cx.1 cx.2.1 dX10_isLetter_16 (by decide) ?_
    exact hp_zret cx hw (cd_ret hj h) (by decide) dX10_isLetter_17
  · have h := md_in c3 h
    refine lv_iload_n cx.1 cx.2.1 dX10_isLetter_6 rfl (lv_at hl 0 rfl) ?_
    refine lv_bipush (v := 122) cx.1 cx.2.1 dX10_isLetter_7 (by decide) ?_
    refine lv_icmp_gt (tgt := 16) cx.1 cx.2.1 dX10_isLetter_9 (by decide) (fun c9 => ?_) (fun c9 => ?_)
    · have h := md_ip c9 h
      refine lv_iconst (v := 0) cx.1 cx.2.1 dX10_isLetter_16 (by decide) ?_
      exact hp_zret cx hw (cd_ret hj h) (by decide) dX10_isLetter_17
    · have h := md_in c9 h
      refine lv_iconst (v := 1) cx.1 cx.2.1 dX10_isLetter_12 (by decide) ?_
      refine lv_goto (tgt := 17) cx.1 cx.2.1 dX10_isLetter_13 (by decide) ?_
      exact hp_zret cx hw (cd_ret hj h) (by decide) dX10_isLetter_17
set_option maxHeartbeats 4000000 in
set_option maxRecDepth 100000 in
theorem kc_X10_isDigit (l : Launch) (D : va_G) (cA : Nat → ClassId) (E : hp_N) (sz : Nat) (ad : Nat → Nat → Nat) (ca0 : Nat → Nat) (hj : cd_inj ad ca0) (oq sgq sgv : Nat) (hE : cd_E E oq sgq sgv) (n : Nat) (σ0 : cd_S) (a0 : Int32) (p : (Int32 × cd_S)) (h : f_X10_isDigit n σ0 a0 = some p) : Met l yX10_isDigit (Cond.code yX10_isDigit cX10_isDigit 1 (some .boolean) :: v_CLS) ({ frames := 0, cells := 0, slots := 0, locals := 0 }) (hp_Pc D vwCl (hp_Tl cA) E sz (cd_pic cA ad ca0 σ0) [.int a0]) (hp_Qi D vwCl (hp_Tl cA) sz (cd_pic cA ad ca0 σ0) (fun r u => r = p.1 ∧ ∃ ca1, cd_inj ad ca1 ∧ u = cd_pic cA ad ca1 p.2)) 0 0 (hp_A (cd_pic cA ad ca0 σ0) sz) := by
  refine hp_ofW (cc := cX10_isDigit) (maxL := 1) (ret := (some .boolean)) (by decide) rfl (Nat.le_of_ble_eq_true rfl) ?_
  intro pp ee ss mm bb mt cd ls cx hsz hw hl
  have hl : lv_has ls 1 [(0, .int a0)] := hl
  refine lv_iload_n cx.1 cx.2.1 dX10_isDigit_0 rfl (lv_at hl 0 rfl) ?_
  refine lv_bipush (v := 48) cx.1 cx.2.1 dX10_isDigit_1 (by decide) ?_
  refine lv_icmp_lt (tgt := 16) cx.1 cx.2.1 dX10_isDigit_3 (by decide) (fun c3 => ?_) (fun c3 => ?_)
  · have h := md_ip c3 h
    refine lv_iconst (v := 0) cx.1 cx.2.1 dX10_isDigit_16 (by decide) ?_
    exact hp_zret cx hw (cd_ret hj h) (by decide) dX10_isDigit_17
  · have h := md_in c3 h
    refine lv_iload_n cx.1 cx.2.1 dX10_isDigit_6 rfl (lv_at hl 0 rfl) ?_
    refine lv_bipush (v := 57) cx.1 cx.2.1 dX10_isDigit_7 (by decide) ?_
    refine lv_icmp_gt (tgt := 16) cx.1 cx.2.1 dX10_isDigit_9 (by decide) (fun c9 => ?_) (fun c9 => ?_)
    · have h := md_ip c9 h
      refine lv_iconst (v := 0) cx.1 cx.2.1 dX10_isDigit_16 (by decide) ?_
      exact hp_zret cx hw (cd_ret hj h) (by decide) dX10_isDigit_17
    · have h := md_in c9 h
      refine lv_iconst (v := 1) cx.1 cx.2.1 dX10_isDigit_12 (by decide) ?_
      refine lv_goto (tgt := 17) cx.1 cx.2.1 dX10_isDigit_13 (by decide) ?_
      exact hp_zret cx hw (cd_ret hj h) (by decide) dX10_isDigit_17
set_option maxHeartbeats 4000000 in
set_option maxRecDepth 100000 in
theorem kc_X10_addWord (l : Launch) (D : va_G) (cA : Nat → ClassId) (E : hp_N) (sz : Nat) (ad : Nat → Nat → Nat) (ca0 : Nat → Nat) (hj : cd_inj ad ca0) (oq sgq sgv : Nat) (hE : cd_E E oq sgq sgv) (n : Nat) (σ0 : cd_S) (b0 : cd_B) (a1 : Int32) (a2 : Int32) (a3 : Int64) (p : (Int32 × cd_S × cd_B)) (h : f_X10_addWord n σ0 b0 a1 a2 a3 = some p) : (p.2.2.1 ≤ b0.1 ∧ p.2.2.2 ≤ b0.2) ∧ Met l yX10_addWord (Cond.code yX10_addWord cX10_addWord 5 none :: v_CLS) ({ frames := 4, cells := b0.1 - p.2.2.1, slots := b0.2 - p.2.2.2, locals := 111 }) (hp_Pc D vwCl (hp_Tl cA) E sz (cd_pic cA ad ca0 σ0) [.ref (ad 10 0), .int a1, .int a2, .long a3]) (hp_Qv D vwCl (hp_Tl cA) sz (cd_pic cA ad ca0 σ0) (fun u => ∃ ca1, cd_inj ad ca1 ∧ u = cd_pic cA ad ca1 p.2.1)) (b0.1 - p.2.2.1) (b0.2 - p.2.2.2) (hp_A (cd_pic cA ad ca0 σ0) sz) := by
  obtain ⟨hm0, hn0, h⟩ := cd_cks h
  have hM0 : p.2.2.1 ≤ b0.1 ∧ p.2.2.2 ≤ b0.2 := ⟨hm0, hn0⟩
  refine ⟨hM0, ?_⟩
  refine hp_ofW (cc := cX10_addWord) (maxL := 5) (ret := none) (by decide) rfl (Nat.le_of_ble_eq_true rfl) ?_
  intro pp ee ss mm bb mt cd ls cx hsz hw hl
  have hl : lv_has ls 5 [(0, .ref (ad 10 0)), (1, .int a1), (2, .int a2), (3, .long a3)] := hl
  refine W.widen (k := b0.1 - b0.1) (n := b0.2 - b0.2) (Nat.zero_le _) (Nat.zero_le _) ?_
  refine lv_aload_n cx.1 cx.2.1 dX10_addWord_0 rfl (lv_at hl 0 rfl) ?_
  refine cd_gO (o2 := 6) (e2 := 0) (o := 10) (k := 1) (f := 321) hj cx hw hic10 rfl ⟨by decide, rfl, by decide, rfl⟩ rfl (by decide) ⟨rfl, rfl⟩ (List.mem_cons_of_mem _ cm_649) dX10_addWord_1 ?_
  refine lv_iload_n cx.1 cx.2.1 dX10_addWord_4 rfl (lv_at hl 1 rfl) ?_
  refine lv_i2l (v := (a1.toInt64)) cx.1 cx.2.1 dX10_addWord_5 rfl ?_
  obtain ⟨p1, e_p1, h⟩ := md_ob h
  obtain ⟨hm2, hn2, h⟩ := cd_cks h
  have hM2 : p.2.2.1 ≤ p1.2.2.1 ∧ p.2.2.2 ≤ p1.2.2.2 := ⟨hm2, hn2⟩
  have hle1 := (kc_X6_add l D cA E sz ad _ hj oq sgq sgv hE n σ0 b0 0 ((a1.toInt64)) (by decide) p1 e_p1).1
  refine hp_callVv (As := [.long (a1.toInt64)]) (rest := []) cx hw ((kc_X6_add l D cA E _ ad _ hj oq sgq sgv hE n σ0 b0 0 ((a1.toInt64)) (by decide) p1 e_p1).2) (cwV 1 cx.2.2.2.2.2.1 (cd_giV cm_1034 cm_40 cm_41 cm_5 cm_42) rfl rfl rfl hdc_X6_add ⟨Nat.le_of_ble_eq_true rfl, Nat.le_of_ble_eq_true rfl⟩) (cd_atO hj (by decide) (by decide)) rfl rfl hl.1 rfl (Nat.le_of_ble_eq_true rfl) dX10_addWord_6 ⟨by (try dsimp only); omega, by (try dsimp only); omega⟩ (fun u H locs hp hw => ?_)
  obtain ⟨ca, hj, rfl⟩ := hp
  refine W.widen (k := b0.1 - p1.2.2.1) (n := b0.2 - p1.2.2.2) (by omega) (by omega) ?_
  refine lv_aload_n cx.1 cx.2.1 dX10_addWord_9 rfl (lv_at hl 0 rfl) ?_
  refine cd_gO (o2 := 6) (e2 := 0) (o := 10) (k := 1) (f := 321) hj cx hw hic10 rfl ⟨by decide, rfl, by decide, rfl⟩ rfl (by decide) ⟨rfl, rfl⟩ (List.mem_cons_of_mem _ cm_649) dX10_addWord_10 ?_
  refine lv_iload_n cx.1 cx.2.1 dX10_addWord_13 rfl (lv_at hl 2 rfl) ?_
  refine lv_i2l (v := (a2.toInt64)) cx.1 cx.2.1 dX10_addWord_14 rfl ?_
  obtain ⟨p3, e_p3, h⟩ := md_ob h
  obtain ⟨hm4, hn4, h⟩ := cd_cks h
  have hM4 : p.2.2.1 ≤ p3.2.2.1 ∧ p.2.2.2 ≤ p3.2.2.2 := ⟨hm4, hn4⟩
  have hle3 := (kc_X6_add l D cA E sz ad _ hj oq sgq sgv hE n p1.2.1 (p1.2.2) 0 ((a2.toInt64)) (by decide) p3 e_p3).1
  refine hp_callVv (As := [.long (a2.toInt64)]) (rest := []) cx hw ((kc_X6_add l D cA E _ ad _ hj oq sgq sgv hE n p1.2.1 (p1.2.2) 0 ((a2.toInt64)) (by decide) p3 e_p3).2) (cwV 1 cx.2.2.2.2.2.1 (cd_giV cm_1034 cm_40 cm_41 cm_5 cm_42) rfl rfl rfl hdc_X6_add ⟨Nat.le_of_ble_eq_true rfl, Nat.le_of_ble_eq_true rfl⟩) (cd_atO hj (by decide) (by decide)) rfl rfl hl.1 rfl (Nat.le_of_ble_eq_true rfl) dX10_addWord_15 ⟨by (try dsimp only); omega, by (try dsimp only); omega⟩ (fun u H locs hp hw => ?_)
  obtain ⟨ca, hj, rfl⟩ := hp
  refine W.widen (k := b0.1 - p3.2.2.1) (n := b0.2 - p3.2.2.2) (by omega) (by omega) ?_
  refine lv_aload_n cx.1 cx.2.1 dX10_addWord_18 rfl (lv_at hl 0 rfl) ?_
  refine cd_gO (o2 := 6) (e2 := 0) (o := 10) (k := 1) (f := 321) hj cx hw hic10 rfl ⟨by decide, rfl, by decide, rfl⟩ rfl (by decide) ⟨rfl, rfl⟩ (List.mem_cons_of_mem _ cm_649) dX10_addWord_19 ?_
  refine lv_lload_n cx.1 cx.2.1 dX10_addWord_22 rfl (lv_at hl 3 rfl) ?_
  obtain ⟨p5, e_p5, h⟩ := md_ob h
  obtain ⟨hm6, hn6, h⟩ := cd_cks h
  have hM6 : p.2.2.1 ≤ p5.2.2.1 ∧ p.2.2.2 ≤ p5.2.2.2 := ⟨hm6, hn6⟩
  have hle5 := (kc_X6_add l D cA E sz ad _ hj oq sgq sgv hE n p3.2.1 (p3.2.2) 0 a3 (by decide) p5 e_p5).1
  refine hp_callVv (As := [.long a3]) (rest := []) cx hw ((kc_X6_add l D cA E _ ad _ hj oq sgq sgv hE n p3.2.1 (p3.2.2) 0 a3 (by decide) p5 e_p5).2) (cwV 1 cx.2.2.2.2.2.1 (cd_giV cm_1034 cm_40 cm_41 cm_5 cm_42) rfl rfl rfl hdc_X6_add ⟨Nat.le_of_ble_eq_true rfl, Nat.le_of_ble_eq_true rfl⟩) (cd_atO hj (by decide) (by decide)) rfl rfl hl.1 rfl (Nat.le_of_ble_eq_true rfl) dX10_addWord_23 ⟨by (try dsimp only); omega, by (try dsimp only); omega⟩ (fun u H locs hp hw => ?_)
  obtain ⟨ca, hj, rfl⟩ := hp
  refine W.widen (k := b0.1 - p5.2.2.1) (n := b0.2 - p5.2.2.2) (by omega) (by omega) ?_
  exact hp_vret cx hw ((cd_retb hj h).2) dX10_addWord_26 (cd_le1 h) (cd_le2 h)
set_option maxHeartbeats 4000000 in
set_option maxRecDepth 100000 in
theorem kc_X10_byteAt (l : Launch) (D : va_G) (cA : Nat → ClassId) (E : hp_N) (sz : Nat) (ad : Nat → Nat → Nat) (ca0 : Nat → Nat) (hj : cd_inj ad ca0) (oq sgq sgv : Nat) (hE : cd_E E oq sgq sgv) (n : Nat) (σ0 : cd_S) (a1 : Int32) (p : (Int32 × cd_S)) (h : f_X10_byteAt n σ0 a1 = some p) : Met l yX10_byteAt (Cond.code yX10_byteAt cX10_byteAt 2 (some .int) :: v_CLS) ({ frames := 0, cells := 0, slots := 0, locals := 0 }) (hp_Pc D vwCl (hp_Tl cA) E sz (cd_pic cA ad ca0 σ0) [.ref (ad 10 0), .int a1]) (hp_Qi D vwCl (hp_Tl cA) sz (cd_pic cA ad ca0 σ0) (fun r u => r = p.1 ∧ ∃ ca1, cd_inj ad ca1 ∧ u = cd_pic cA ad ca1 p.2)) 0 0 (hp_A (cd_pic cA ad ca0 σ0) sz) := by
  refine hp_ofW (cc := cX10_byteAt) (maxL := 2) (ret := (some .int)) (by decide) rfl (Nat.le_of_ble_eq_true rfl) ?_
  intro pp ee ss mm bb mt cd ls cx hsz hw hl
  have hl : lv_has ls 2 [(0, .ref (ad 10 0)), (1, .int a1)] := hl
  refine lv_iload_n cx.1 cx.2.1 dX10_byteAt_0 rfl (lv_at hl 1 rfl) ?_
  refine lv_if_lt (tgt := 34) cx.1 cx.2.1 dX10_byteAt_1 (by decide) (fun c1 => ?_) (fun c1 => ?_)
  · have h := md_ip c1 h
    refine lv_iconst (v := (-1)) cx.1 cx.2.1 dX10_byteAt_34 (by decide) ?_
    exact hp_iret cx hw (cd_ret hj h) dX10_byteAt_35
  · have h := md_in c1 h
    refine lv_iload_n cx.1 cx.2.1 dX10_byteAt_4 rfl (lv_at hl 1 rfl) ?_
    refine lv_aload_n cx.1 cx.2.1 dX10_byteAt_5 rfl (lv_at hl 0 rfl) ?_
    refine cd_gI (o := 10) (k := 4) (f := 324) hj cx hw hic10 rfl ⟨by decide, rfl, by decide, rfl⟩ rfl (by decide) (List.mem_cons_of_mem _ cm_1035) dX10_byteAt_6 ?_
    refine lv_icmp_ge (tgt := 34) cx.1 cx.2.1 dX10_byteAt_9 (by decide) (fun c9 => ?_) (fun c9 => ?_)
    · have h := md_ip c9 h
      refine lv_iconst (v := (-1)) cx.1 cx.2.1 dX10_byteAt_34 (by decide) ?_
      exact hp_iret cx hw (cd_ret hj h) dX10_byteAt_35
    · have h := md_in c9 h
      refine lv_iload_n cx.1 cx.2.1 dX10_byteAt_12 rfl (lv_at hl 1 rfl) ?_
      refine lv_aload_n cx.1 cx.2.1 dX10_byteAt_13 rfl (lv_at hl 0 rfl) ?_
      obtain ⟨u1, e_u1, h⟩ := md_ob h
      refine cd_gT (u := u1) (o := 10) (k := 3) (f := 323) hj cx hw hic10 rfl ⟨by decide, rfl, by decide, rfl⟩ rfl (by decide) ⟨rfl, rfl⟩ e_u1 (List.mem_cons_of_mem _ cm_1036) dX10_byteAt_14 ?_
      refine cd_len (f := 352) (v := 3000) hj cx hw (by decide) (by decide) (by decide) (by decide) (by decide) rfl dX10_byteAt_17 ?_
      refine lv_icmp_ge (tgt := 34) cx.1 cx.2.1 dX10_byteAt_18 (by decide) (fun c18 => ?_) (fun c18 => ?_)
      · have h := md_ip c18 h
        refine lv_iconst (v := (-1)) cx.1 cx.2.1 dX10_byteAt_34 (by decide) ?_
        exact hp_iret cx hw (cd_ret hj h) dX10_byteAt_35
      · have h := md_in c18 h
        refine lv_aload_n cx.1 cx.2.1 dX10_byteAt_21 rfl (lv_at hl 0 rfl) ?_
        obtain ⟨u2, e_u2, h⟩ := md_ob h
        refine cd_gT (u := u2) (o := 10) (k := 3) (f := 323) hj cx hw hic10 rfl ⟨by decide, rfl, by decide, rfl⟩ rfl (by decide) ⟨rfl, rfl⟩ e_u2 (List.mem_cons_of_mem _ cm_1036) dX10_byteAt_22 ?_
        refine lv_iload_n cx.1 cx.2.1 dX10_byteAt_25 rfl (lv_at hl 1 rfl) ?_
        obtain ⟨v3, e_v3, h⟩ := md_ob h
        refine cd_lB (f := 352) hj cx hw (by decide) (by decide) rfl e_v3 dX10_byteAt_26 ?_
        refine lv_sipush (v := 255) cx.1 cx.2.1 dX10_byteAt_27 (by decide) ?_
        refine lv_iand cx.1 cx.2.1 dX10_byteAt_30 ?_
        refine lv_goto (tgt := 35) cx.1 cx.2.1 dX10_byteAt_31 (by decide) ?_
        exact hp_iret cx hw (cd_ret hj h) dX10_byteAt_35
set_option maxHeartbeats 4000000 in
set_option maxRecDepth 100000 in
theorem kc_X10_stepCharAt (l : Launch) (D : va_G) (cA : Nat → ClassId) (E : hp_N) (sz : Nat) (ad : Nat → Nat → Nat) (ca0 : Nat → Nat) (hj : cd_inj ad ca0) (oq sgq sgv : Nat) (hE : cd_E E oq sgq sgv) (n : Nat) (σ0 : cd_S) (a1 : Int32) (p : (Int32 × cd_S)) (h : f_X10_stepCharAt n σ0 a1 = some p) : Met l yX10_stepCharAt (Cond.code yX10_stepCharAt cX10_stepCharAt 3 (some .boolean) :: v_CLS) ({ frames := 1, cells := 0, slots := 0, locals := 21 }) (hp_Pc D vwCl (hp_Tl cA) E sz (cd_pic cA ad ca0 σ0) [.ref (ad 10 0), .int a1]) (hp_Qi D vwCl (hp_Tl cA) sz (cd_pic cA ad ca0 σ0) (fun r u => r = p.1 ∧ ∃ ca1, cd_inj ad ca1 ∧ u = cd_pic cA ad ca1 p.2)) 0 0 (hp_A (cd_pic cA ad ca0 σ0) sz) := by
  refine hp_ofW (cc := cX10_stepCharAt) (maxL := 3) (ret := (some .boolean)) (by decide) rfl (Nat.le_of_ble_eq_true rfl) ?_
  intro pp ee ss mm bb mt cd ls cx hsz hw hl
  have hl : lv_has ls 3 [(0, .ref (ad 10 0)), (1, .int a1)] := hl
  have J20 : ∀ (ca : Nat → Nat) (hj : cd_inj ad ca) (σ : cd_S) (H : Heap) (locs : List Loc) (ls : Array Slot), f_X10_stepCharAt_J20 n σ = some p → hp_w D vwCl (hp_Tl cA) E (hp_A (cd_pic cA ad ca0 σ0) sz) ss H locs (cd_pic cA ad ca σ) → lv_has ls 3 [] → W pp l ee ({ frames := 1, cells := 0, slots := 0, locals := 21 }) ss mm [.ref (ad 10 0), .int a1].toArray bb mt cd H locs 0 0 (MQ bb (hp_Qi D vwCl (hp_Tl cA) sz (cd_pic cA ad ca0 σ0) (fun r u => r = p.1 ∧ ∃ ca1, cd_inj ad ca1 ∧ u = cd_pic cA ad ca1 p.2)) [.ref (ad 10 0), .int a1].toArray ss 0 0 (hp_A (cd_pic cA ad ca0 σ0) sz)) (F0 mm 20 ls []) := by
    intro ca hj σ H locs ls h hw hl
    refine lv_iconst (v := 1) cx.1 cx.2.1 dX10_stepCharAt_20 (by decide) ?_
    refine lv_goto (tgt := 25) cx.1 cx.2.1 dX10_stepCharAt_21 (by decide) ?_
    exact hp_zret cx hw (cd_ret hj h) (by decide) dX10_stepCharAt_25
  refine lv_aload_n cx.1 cx.2.1 dX10_stepCharAt_0 rfl (lv_at hl 0 rfl) ?_
  refine lv_iload_n cx.1 cx.2.1 dX10_stepCharAt_1 rfl (lv_at hl 1 rfl) ?_
  obtain ⟨p1, e_p1, h⟩ := md_ob h
  refine hp_callVi (As := [.int a1]) (rest := []) cx hw (kc_X10_byteAt l D cA E _ ad _ hj oq sgq sgv hE n σ0 a1 p1 e_p1) (cwV 1 cx.2.2.2.2.2.1 (cd_giV cm_1037 cm_1038 cm_1039 cm_301 cm_1040) rfl rfl rfl hdc_X10_byteAt ⟨Nat.le_of_ble_eq_true rfl, Nat.le_of_ble_eq_true rfl⟩) (cd_atO hj (by decide) (by decide)) rfl rfl hl.1 rfl (Nat.le_of_ble_eq_true rfl) dX10_stepCharAt_2 ⟨Nat.le_refl _, Nat.le_refl _⟩ (fun r u H locs hp hw => ?_)
  obtain ⟨rfl, ca, hj, rfl⟩ := hp
  refine lv_istore_n (lv' := [(2, .int p1.1), (0, .ref (ad 10 0)), (1, .int a1)]) cx.1 cx.2.1 dX10_stepCharAt_5 rfl hl (by decide) rfl (fun ls hl => ?_)
  refine lv_iload_n cx.1 cx.2.1 dX10_stepCharAt_6 rfl (lv_at hl 0 rfl) ?_
  obtain ⟨p2, e_p2, h⟩ := md_ob h
  refine hp_callSi (As := [.int p1.1]) (rest := []) cx hw (kc_X10_isLetter l D cA E _ ad _ hj oq sgq sgv hE n p1.2 (p1.1) p2 e_p2) (cwS 1 cx.2.2.2.2.2.1 (cd_giS cm_1041 cm_1042 cm_301 cm_1043) rfl rfl rfl hdc_X10_isLetter ⟨Nat.le_of_ble_eq_true rfl, Nat.le_of_ble_eq_true rfl⟩) rfl hl.1 rfl (Nat.le_of_ble_eq_true rfl) dX10_stepCharAt_7 ⟨Nat.le_refl _, Nat.le_refl _⟩ (fun r u H locs hp hw => ?_)
  obtain ⟨rfl, ca, hj, rfl⟩ := hp
  refine lv_if_ne (tgt := 20) cx.1 cx.2.1 dX10_stepCharAt_10 (by decide) (fun c10 => ?_) (fun c10 => ?_)
  · have h := md_in c10 h
    exact J20 _ hj p2.2 _ _ _ h hw (lv_sub hl [] rfl)
  · have h := md_ip c10 h
    refine lv_iload_n cx.1 cx.2.1 dX10_stepCharAt_13 rfl (lv_at hl 0 rfl) ?_
    obtain ⟨p3, e_p3, h⟩ := md_ob h
    refine hp_callSi (As := [.int p1.1]) (rest := []) cx hw (kc_X10_isDigit l D cA E _ ad _ hj oq sgq sgv hE n p2.2 (p1.1) p3 e_p3) (cwS 1 cx.2.2.2.2.2.1 (cd_giS cm_1044 cm_1045 cm_301 cm_1046) rfl rfl rfl hdc_X10_isDigit ⟨Nat.le_of_ble_eq_true rfl, Nat.le_of_ble_eq_true rfl⟩) rfl hl.1 rfl (Nat.le_of_ble_eq_true rfl) dX10_stepCharAt_14 ⟨Nat.le_refl _, Nat.le_refl _⟩ (fun r u H locs hp hw => ?_)
    obtain ⟨rfl, ca, hj, rfl⟩ := hp
    refine lv_if_eq (tgt := 24) cx.1 cx.2.1 dX10_stepCharAt_17 (by decide) (fun c17 => ?_) (fun c17 => ?_)
    · have h := md_ip c17 h
      refine lv_iconst (v := 0) cx.1 cx.2.1 dX10_stepCharAt_24 (by decide) ?_
      exact hp_zret cx hw (cd_ret hj h) (by decide) dX10_stepCharAt_25
    · have h := md_in c17 h
      exact J20 _ hj p3.2 _ _ _ h hw (lv_sub hl [] rfl)
set_option maxHeartbeats 4000000 in
set_option maxRecDepth 100000 in
theorem kc_X10_findName (l : Launch) (D : va_G) (cA : Nat → ClassId) (E : hp_N) (sz : Nat) (ad : Nat → Nat → Nat) (ca0 : Nat → Nat) (hj : cd_inj ad ca0) (oq sgq sgv : Nat) (hE : cd_E E oq sgq sgv) (n : Nat) (σ0 : cd_S) (b0 : cd_B) (p : (Int32 × cd_S × cd_B)) (h : f_X10_findName n σ0 b0 = some p) : (p.2.2.1 ≤ b0.1 ∧ p.2.2.2 ≤ b0.2) ∧ Met l yX10_findName (Cond.code yX10_findName cX10_findName 6 none :: v_CLS) ({ frames := 5, cells := b0.1 - p.2.2.1, slots := b0.2 - p.2.2.2, locals := 135 }) (hp_Pc D vwCl (hp_Tl cA) E sz (cd_pic cA ad ca0 σ0) [.ref (ad 10 0)]) (hp_Qv D vwCl (hp_Tl cA) sz (cd_pic cA ad ca0 σ0) (fun u => ∃ ca1, cd_inj ad ca1 ∧ u = cd_pic cA ad ca1 p.2.1)) (b0.1 - p.2.2.1) (b0.2 - p.2.2.2) (hp_A (cd_pic cA ad ca0 σ0) sz) := by
  obtain ⟨hm0, hn0, h⟩ := cd_cks h
  have hM0 : p.2.2.1 ≤ b0.1 ∧ p.2.2.2 ≤ b0.2 := ⟨hm0, hn0⟩
  refine ⟨hM0, ?_⟩
  refine hp_ofW (cc := cX10_findName) (maxL := 6) (ret := none) (by decide) rfl (Nat.le_of_ble_eq_true rfl) ?_
  intro pp ee ss mm bb mt cd ls cx hsz hw hl
  have hl : lv_has ls 6 [(0, .ref (ad 10 0))] := hl
  refine W.widen (k := b0.1 - b0.1) (n := b0.2 - b0.2) (Nat.zero_le _) (Nat.zero_le _) ?_
  have J117 : ∀ (ca : Nat → Nat) (hj : cd_inj ad ca) (σ : cd_S) (b : cd_B) (l1 : Int32) (l2 : Int64) (t0 : Int32) (H : Heap) (locs : List Loc) (ls : Array Slot), b.1 ≤ b0.1 → b.2 ≤ b0.2 → p.2.2.1 ≤ b.1 → p.2.2.2 ≤ b.2 → f_X10_findName_J117 n σ b l1 l2 t0 = some p → hp_w D vwCl (hp_Tl cA) E (hp_A (cd_pic cA ad ca0 σ0) sz) ss H locs (cd_pic cA ad ca σ) → lv_has ls 6 [(1, .int l1), (2, .long l2)] → W pp l ee ({ frames := 5, cells := b0.1 - p.2.2.1, slots := b0.2 - p.2.2.2, locals := 135 }) ss mm [.ref (ad 10 0)].toArray bb mt cd H locs (b0.1 - b.1) (b0.2 - b.2) (MQ bb (hp_Qv D vwCl (hp_Tl cA) sz (cd_pic cA ad ca0 σ0) (fun u => ∃ ca1, cd_inj ad ca1 ∧ u = cd_pic cA ad ca1 p.2.1)) [.ref (ad 10 0)].toArray ss (b0.1 - p.2.2.1) (b0.2 - p.2.2.2) (hp_A (cd_pic cA ad ca0 σ0) sz)) (F0 mm 117 ls [.int t0, .ref (ad 10 0)]) := by
    intro ca hj σ b l1 l2 t0 H locs ls hb1 hb2 hf1 hf2 h hw hl
    refine lv_iload_n cx.1 cx.2.1 dX10_findName_117 rfl (lv_at hl 0 rfl) ?_
    refine lv_lload_n cx.1 cx.2.1 dX10_findName_118 rfl (lv_at hl 1 rfl) ?_
    obtain ⟨p1, e_p1, h⟩ := md_ob h
    obtain ⟨hm2, hn2, h⟩ := cd_cks h
    have hM2 : p.2.2.1 ≤ p1.2.2.1 ∧ p.2.2.2 ≤ p1.2.2.2 := ⟨hm2, hn2⟩
    have hle1 := (kc_X10_addWord l D cA E sz ad _ hj oq sgq sgv hE n σ b t0 l1 l2 p1 e_p1).1
    refine hp_callVv (As := [.int t0, .int l1, .long l2]) (rest := []) cx hw ((kc_X10_addWord l D cA E _ ad _ hj oq sgq sgv hE n σ b t0 l1 l2 p1 e_p1).2) (cwV 3 cx.2.2.2.2.2.1 (cd_giV cm_1054 cm_1055 cm_1056 cm_301 cm_1057) rfl rfl rfl hdc_X10_addWord ⟨Nat.le_of_ble_eq_true rfl, Nat.le_of_ble_eq_true rfl⟩) (cd_atO hj (by decide) (by decide)) rfl rfl hl.1 rfl (Nat.le_of_ble_eq_true rfl) dX10_findName_119 ⟨by (try dsimp only); omega, by (try dsimp only); omega⟩ (fun u H locs hp hw => ?_)
    obtain ⟨ca, hj, rfl⟩ := hp
    refine W.widen (k := b0.1 - p1.2.2.1) (n := b0.2 - p1.2.2.2) (by omega) (by omega) ?_
    exact hp_vret cx hw ((cd_retb hj h).2) dX10_findName_122 (cd_le1 h) (cd_le2 h)
  refine lv_aload_n cx.1 cx.2.1 dX10_findName_0 rfl (lv_at hl 0 rfl) ?_
  refine cd_gI (o := 10) (k := 6) (f := 326) hj cx hw hic10 rfl ⟨by decide, rfl, by decide, rfl⟩ rfl (by decide) (List.mem_cons_of_mem _ cm_1047) dX10_findName_1 ?_
  refine lv_istore_n (lv' := [(1, .int (cI σ0 326 0)), (0, .ref (ad 10 0))]) cx.1 cx.2.1 dX10_findName_4 rfl hl (by decide) rfl (fun ls hl => ?_)
  refine lv_lconst (v := 0) cx.1 cx.2.1 dX10_findName_5 (by decide) ?_
  refine lv_lstore_n (lv' := [(2, .long 0), (1, .int (cI σ0 326 0)), (0, .ref (ad 10 0))]) cx.1 cx.2.1 dX10_findName_6 rfl hl (by decide) rfl (fun ls hl => ?_)
  have L7 : ∀ (j : Nat) (ca : Nat → Nat) (hj : cd_inj ad ca) (σ : cd_S) (b : cd_B) (l1 : Int32) (l2 : Int64) (q : (cd_S × cd_B × Int64)) (H : Heap) (locs : List Loc) (ls : Array Slot), b.1 ≤ b0.1 → b.2 ≤ b0.2 → p.2.2.1 ≤ b.1 → p.2.2.2 ≤ b.2 → p.2.2.1 ≤ q.2.1.1 → p.2.2.2 ≤ q.2.1.2 → f_X10_findName_L7 n l1 j σ b l2 = some q → hp_w D vwCl (hp_Tl cA) E (hp_A (cd_pic cA ad ca0 σ0) sz) ss H locs (cd_pic cA ad ca σ) → lv_has ls 6 [(0, .ref (ad 10 0)), (1, .int l1), (2, .long l2)] → (∀ (ca : Nat → Nat) (hj : cd_inj ad ca) (H : Heap) (locs : List Loc) (ls : Array Slot), q.2.1.1 ≤ b0.1 → q.2.1.2 ≤ b0.2 → hp_w D vwCl (hp_Tl cA) E (hp_A (cd_pic cA ad ca0 σ0) sz) ss H locs (cd_pic cA ad ca q.1) → lv_has ls 6 [(0, .ref (ad 10 0)), (1, .int l1), (2, .long q.2.2)] → W pp l ee ({ frames := 5, cells := b0.1 - p.2.2.1, slots := b0.2 - p.2.2.2, locals := 135 }) ss mm [.ref (ad 10 0)].toArray bb mt cd H locs (b0.1 - q.2.1.1) (b0.2 - q.2.1.2) (MQ bb (hp_Qv D vwCl (hp_Tl cA) sz (cd_pic cA ad ca0 σ0) (fun u => ∃ ca1, cd_inj ad ca1 ∧ u = cd_pic cA ad ca1 p.2.1)) [.ref (ad 10 0)].toArray ss (b0.1 - p.2.2.1) (b0.2 - p.2.2.2) (hp_A (cd_pic cA ad ca0 σ0) sz)) (F0 mm 55 ls [])) → W pp l ee ({ frames := 5, cells := b0.1 - p.2.2.1, slots := b0.2 - p.2.2.2, locals := 135 }) ss mm [.ref (ad 10 0)].toArray bb mt cd H locs (b0.1 - b.1) (b0.2 - b.2) (MQ bb (hp_Qv D vwCl (hp_Tl cA) sz (cd_pic cA ad ca0 σ0) (fun u => ∃ ca1, cd_inj ad ca1 ∧ u = cd_pic cA ad ca1 p.2.1)) [.ref (ad 10 0)].toArray ss (b0.1 - p.2.2.1) (b0.2 - p.2.2.2) (hp_A (cd_pic cA ad ca0 σ0) sz)) (F0 mm 7 ls []) := by
    intro j
    induction j with
    | zero => intro ca hj σ b l1 l2 q H locs ls hb1 hb2 hf1 hf2 hq1 hq2 h; exact nomatch h
    | succ j ih =>
      intro ca hj σ b l1 l2 q H locs ls hb1 hb2 hf1 hf2 hq1 hq2 h hw hl K
      unfold f_X10_findName_L7 at h
      refine lv_aload_n cx.1 cx.2.1 dX10_findName_7 rfl (lv_at hl 0 rfl) ?_
      refine cd_gI (o := 10) (k := 6) (f := 326) hj cx hw hic10 rfl ⟨by decide, rfl, by decide, rfl⟩ rfl (by decide) (List.mem_cons_of_mem _ cm_1047) dX10_findName_8 ?_
      refine lv_aload_n cx.1 cx.2.1 dX10_findName_11 rfl (lv_at hl 0 rfl) ?_
      refine cd_gI (o := 10) (k := 4) (f := 324) hj cx hw hic10 rfl ⟨by decide, rfl, by decide, rfl⟩ rfl (by decide) (List.mem_cons_of_mem _ cm_1035) dX10_findName_12 ?_
      refine lv_icmp_ge (tgt := 55) cx.1 cx.2.1 dX10_findName_15 (by decide) (fun c15 => ?_) (fun c15 => ?_)
      · have h := md_ip c15 h
        obtain rfl := Option.some.inj h
        exact K _ hj _ _ _ (by (try dsimp only); omega) (by (try dsimp only); omega) hw (lv_sub hl [0, 1, 2] rfl)
      · have h := md_in c15 h
        refine lv_aload_n cx.1 cx.2.1 dX10_findName_18 rfl (lv_at hl 0 rfl) ?_
        refine lv_aload_n cx.1 cx.2.1 dX10_findName_19 rfl (lv_at hl 0 rfl) ?_
        refine cd_gI (o := 10) (k := 6) (f := 326) hj cx hw hic10 rfl ⟨by decide, rfl, by decide, rfl⟩ rfl (by decide) (List.mem_cons_of_mem _ cm_1047) dX10_findName_20 ?_
        obtain ⟨p3, e_p3, h⟩ := md_ob h
        refine hp_callVi (As := [.int (cI σ 326 0)]) (rest := []) cx hw (kc_X10_stepCharAt l D cA E _ ad _ hj oq sgq sgv hE n σ ((cI σ 326 0)) p3 e_p3) (cwV 1 cx.2.2.2.2.2.1 (cd_giV cm_1048 cm_1049 cm_1050 cm_301 cm_1051) rfl rfl rfl hdc_X10_stepCharAt ⟨Nat.le_of_ble_eq_true rfl, Nat.le_of_ble_eq_true rfl⟩) (cd_atO hj (by decide) (by decide)) rfl rfl hl.1 rfl (Nat.le_of_ble_eq_true rfl) dX10_findName_23 ⟨by (try dsimp only); omega, by (try dsimp only); omega⟩ (fun r u H locs hp hw => ?_)
        obtain ⟨rfl, ca, hj, rfl⟩ := hp
        refine lv_if_eq (tgt := 55) cx.1 cx.2.1 dX10_findName_26 (by decide) (fun c26 => ?_) (fun c26 => ?_)
        · have h := md_ip c26 h
          obtain rfl := Option.some.inj h
          exact K _ hj _ _ _ (by (try dsimp only); omega) (by (try dsimp only); omega) hw (lv_sub hl [0, 1, 2] rfl)
        · have h := md_in c26 h
          refine lv_lload_n cx.1 cx.2.1 dX10_findName_29 rfl (lv_at hl 2 rfl) ?_
          refine lv_aload_n cx.1 cx.2.1 dX10_findName_30 rfl (lv_at hl 0 rfl) ?_
          refine lv_aload_n cx.1 cx.2.1 dX10_findName_31 rfl (lv_at hl 0 rfl) ?_
          refine cd_gI (o := 10) (k := 6) (f := 326) hj cx hw hic10 rfl ⟨by decide, rfl, by decide, rfl⟩ rfl (by decide) (List.mem_cons_of_mem _ cm_1047) dX10_findName_32 ?_
          obtain ⟨p4, e_p4, h⟩ := md_ob h
          refine hp_callVi (As := [.int (cI p3.2 326 0)]) (rest := [.long l2]) cx hw (kc_X10_byteAt l D cA E _ ad _ hj oq sgq sgv hE n p3.2 ((cI p3.2 326 0)) p4 e_p4) (cwV 1 cx.2.2.2.2.2.1 (cd_giV cm_1037 cm_1038 cm_1039 cm_301 cm_1040) rfl rfl rfl hdc_X10_byteAt ⟨Nat.le_of_ble_eq_true rfl, Nat.le_of_ble_eq_true rfl⟩) (cd_atO hj (by decide) (by decide)) rfl rfl hl.1 rfl (Nat.le_of_ble_eq_true rfl) dX10_findName_35 ⟨by (try dsimp only); omega, by (try dsimp only); omega⟩ (fun r u H locs hp hw => ?_)
          obtain ⟨rfl, ca, hj, rfl⟩ := hp
          obtain ⟨p5, e_p5, h⟩ := md_ob h
          refine hp_callSl (As := [.long l2, .int p4.1]) (rest := []) cx hw (kc_X10_codeWith l D cA E _ ad _ hj oq sgq sgv hE n p4.2 l2 (p4.1) p5 e_p5) (cwS 2 cx.2.2.2.2.2.1 (cd_giS cm_1052 cm_300 cm_301 cm_302) rfl rfl rfl hdc_X10_codeWith ⟨Nat.le_of_ble_eq_true rfl, Nat.le_of_ble_eq_true rfl⟩) rfl hl.1 rfl (Nat.le_of_ble_eq_true rfl) dX10_findName_38 ⟨by (try dsimp only); omega, by (try dsimp only); omega⟩ (fun r u H locs hp hw => ?_)
          obtain ⟨rfl, ca, hj, rfl⟩ := hp
          refine lv_lstore_n (lv' := [(2, .long p5.1), (0, .ref (ad 10 0)), (1, .int l1)]) cx.1 cx.2.1 dX10_findName_41 rfl hl (by decide) rfl (fun ls hl => ?_)
          refine lv_aload_n cx.1 cx.2.1 dX10_findName_42 rfl (lv_at hl 1 rfl) ?_
          refine lv_dup cx.1 cx.2.1 dX10_findName_43 rfl ?_
          refine cd_gI (o := 10) (k := 6) (f := 326) hj cx hw hic10 rfl ⟨by decide, rfl, by decide, rfl⟩ rfl (by decide) (List.mem_cons_of_mem _ cm_1047) dX10_findName_44 ?_
          refine lv_iconst (v := 1) cx.1 cx.2.1 dX10_findName_47 (by decide) ?_
          refine lv_iadd cx.1 cx.2.1 dX10_findName_48 ?_
          obtain ⟨σ6, e_σ6, h⟩ := md_ob h
          refine cd_pI (o := 10) (k := 6) (f := 326) hj cx hw hic10 rfl ⟨by decide, rfl, by decide, rfl⟩ tyX10_ok nmX10 rfl (by decide) rfl (List.mem_cons_of_mem _ cm_1047) rfl e_σ6 dX10_findName_49 (fun H locs hw => ?_)
          refine lv_goto (tgt := 7) cx.1 cx.2.1 dX10_findName_52 (by decide) ?_
          exact ih _ hj σ6 b l1 (p5.1) q _ _ _ (by omega) (by omega) (by omega) (by omega) hq1 hq2 h hw (lv_sub hl [1, 2, 0] rfl) K
  obtain ⟨q7, e_q7, h⟩ := md_ob h
  obtain ⟨hm8, hn8, h⟩ := cd_cks h
  have hM8 : p.2.2.1 ≤ q7.2.1.1 ∧ p.2.2.2 ≤ q7.2.1.2 := ⟨hm8, hn8⟩
  refine L7 n _ hj σ0 b0 ((cI σ0 326 0)) 0 q7 _ _ _ (by omega) (by omega) (by omega) (by omega) hM8.1 hM8.2 e_q7 hw (lv_sub hl [2, 1, 0] rfl) (fun ca hj H locs ls hb1 hb2 hw hl => ?_)
  refine lv_iconst (v := 2) cx.1 cx.2.1 dX10_findName_55 (by decide) ?_
  refine lv_istore (lv' := [(4, .int 2), (0, .ref (ad 10 0)), (1, .int (cI σ0 326 0)), (2, .long q7.2.2)]) cx.1 cx.2.1 dX10_findName_56 hl (by decide) rfl (fun ls hl => ?_)
  refine lv_iconst (v := 0) cx.1 cx.2.1 dX10_findName_58 (by decide) ?_
  refine lv_istore (lv' := [(5, .int 0), (4, .int 2), (0, .ref (ad 10 0)), (1, .int (cI σ0 326 0)), (2, .long q7.2.2)]) cx.1 cx.2.1 dX10_findName_59 hl (by decide) rfl (fun ls hl => ?_)
  have L61 : ∀ (j : Nat) (ca : Nat → Nat) (hj : cd_inj ad ca) (σ : cd_S) (b : cd_B) (l1 : Int32) (l2 : Int64) (l4 : Int32) (l5 : Int32) (q : (cd_S × cd_B × Int32 × Int32)) (H : Heap) (locs : List Loc) (ls : Array Slot), b.1 ≤ b0.1 → b.2 ≤ b0.2 → p.2.2.1 ≤ b.1 → p.2.2.2 ≤ b.2 → p.2.2.1 ≤ q.2.1.1 → p.2.2.2 ≤ q.2.1.2 → f_X10_findName_L61 n l1 l2 j σ b l4 l5 = some q → hp_w D vwCl (hp_Tl cA) E (hp_A (cd_pic cA ad ca0 σ0) sz) ss H locs (cd_pic cA ad ca σ) → lv_has ls 6 [(0, .ref (ad 10 0)), (1, .int l1), (2, .long l2), (4, .int l4), (5, .int l5)] → (∀ (ca : Nat → Nat) (hj : cd_inj ad ca) (H : Heap) (locs : List Loc) (ls : Array Slot), q.2.1.1 ≤ b0.1 → q.2.1.2 ≤ b0.2 → hp_w D vwCl (hp_Tl cA) E (hp_A (cd_pic cA ad ca0 σ0) sz) ss H locs (cd_pic cA ad ca q.1) → lv_has ls 6 [(0, .ref (ad 10 0)), (1, .int l1), (2, .long l2), (4, .int q.2.2.1)] → W pp l ee ({ frames := 5, cells := b0.1 - p.2.2.1, slots := b0.2 - p.2.2.2, locals := 135 }) ss mm [.ref (ad 10 0)].toArray bb mt cd H locs (b0.1 - q.2.1.1) (b0.2 - q.2.1.2) (MQ bb (hp_Qv D vwCl (hp_Tl cA) sz (cd_pic cA ad ca0 σ0) (fun u => ∃ ca1, cd_inj ad ca1 ∧ u = cd_pic cA ad ca1 p.2.1)) [.ref (ad 10 0)].toArray ss (b0.1 - p.2.2.1) (b0.2 - p.2.2.2) (hp_A (cd_pic cA ad ca0 σ0) sz)) (F0 mm 99 ls [])) → W pp l ee ({ frames := 5, cells := b0.1 - p.2.2.1, slots := b0.2 - p.2.2.2, locals := 135 }) ss mm [.ref (ad 10 0)].toArray bb mt cd H locs (b0.1 - b.1) (b0.2 - b.2) (MQ bb (hp_Qv D vwCl (hp_Tl cA) sz (cd_pic cA ad ca0 σ0) (fun u => ∃ ca1, cd_inj ad ca1 ∧ u = cd_pic cA ad ca1 p.2.1)) [.ref (ad 10 0)].toArray ss (b0.1 - p.2.2.1) (b0.2 - p.2.2.2) (hp_A (cd_pic cA ad ca0 σ0) sz)) (F0 mm 61 ls []) := by
    intro j
    induction j with
    | zero => intro ca hj σ b l1 l2 l4 l5 q H locs ls hb1 hb2 hf1 hf2 hq1 hq2 h; exact nomatch h
    | succ j ih =>
      intro ca hj σ b l1 l2 l4 l5 q H locs ls hb1 hb2 hf1 hf2 hq1 hq2 h hw hl K
      unfold f_X10_findName_L61 at h
      have J91 : ∀ (ca : Nat → Nat) (hj : cd_inj ad ca) (σ : cd_S) (b : cd_B) (l5 : Int32) (t0 : Int32) (H : Heap) (locs : List Loc) (ls : Array Slot), b.1 ≤ b0.1 → b.2 ≤ b0.2 → p.2.2.1 ≤ b.1 → p.2.2.2 ≤ b.2 → f_X10_findName_J91 n l1 l2 (f_X10_findName_L61 n l1 l2 j) σ b l5 t0 = some q → hp_w D vwCl (hp_Tl cA) E (hp_A (cd_pic cA ad ca0 σ0) sz) ss H locs (cd_pic cA ad ca σ) → lv_has ls 6 [(0, .ref (ad 10 0)), (1, .int l1), (2, .long l2), (5, .int l5)] → W pp l ee ({ frames := 5, cells := b0.1 - p.2.2.1, slots := b0.2 - p.2.2.2, locals := 135 }) ss mm [.ref (ad 10 0)].toArray bb mt cd H locs (b0.1 - b.1) (b0.2 - b.2) (MQ bb (hp_Qv D vwCl (hp_Tl cA) sz (cd_pic cA ad ca0 σ0) (fun u => ∃ ca1, cd_inj ad ca1 ∧ u = cd_pic cA ad ca1 p.2.1)) [.ref (ad 10 0)].toArray ss (b0.1 - p.2.2.1) (b0.2 - p.2.2.2) (hp_A (cd_pic cA ad ca0 σ0) sz)) (F0 mm 91 ls [.int t0]) := by
        intro ca hj σ b l5 t0 H locs ls hb1 hb2 hf1 hf2 h hw hl
        refine lv_istore (lv' := [(4, .int t0), (0, .ref (ad 10 0)), (1, .int l1), (2, .long l2), (5, .int l5)]) cx.1 cx.2.1 dX10_findName_91 hl (by decide) rfl (fun ls hl => ?_)
        refine lv_iinc (v := (l5 + 1)) (lv' := [(5, .int (l5 + 1)), (4, .int t0), (0, .ref (ad 10 0)), (1, .int l1), (2, .long l2)]) cx.1 cx.2.1 dX10_findName_93 hl (k := 4) rfl rfl (by decide) rfl (fun ls hl => ?_)
        refine lv_goto (tgt := 61) cx.1 cx.2.1 dX10_findName_96 (by decide) ?_
        exact ih _ hj σ b l1 l2 t0 ((l5 + 1)) q _ _ _ (by omega) (by omega) (by omega) (by omega) hq1 hq2 h hw (lv_sub hl [2, 3, 4, 1, 0] rfl) K
      refine lv_iload cx.1 cx.2.1 dX10_findName_61 (lv_at hl 4 rfl) ?_
      refine lv_bipush (v := 23) cx.1 cx.2.1 dX10_findName_63 (by decide) ?_
      refine lv_icmp_ge (tgt := 99) cx.1 cx.2.1 dX10_findName_65 (by decide) (fun c65 => ?_) (fun c65 => ?_)
      · have h := md_ip c65 h
        obtain rfl := Option.some.inj h
        exact K _ hj _ _ _ (by (try dsimp only); omega) (by (try dsimp only); omega) hw (lv_sub hl [0, 1, 2, 3] rfl)
      · have h := md_in c65 h
        refine lv_aload_n cx.1 cx.2.1 dX10_findName_68 rfl (lv_at hl 0 rfl) ?_
        refine cd_gA (o := 10) (k := 0) (f := 320) hj cx hw hic10 rfl ⟨by decide, rfl, by decide, rfl⟩ rfl (by decide) (List.mem_cons_of_mem _ cm_1053) dX10_findName_69 ?_
        refine lv_iload cx.1 cx.2.1 dX10_findName_72 (lv_at hl 4 rfl) ?_
        obtain ⟨v9, e_v9, h⟩ := md_ob h
        refine cd_lJ (f := 320) hj cx hw (by decide) (by decide) rfl e_v9 dX10_findName_74 ?_
        refine lv_lload_n cx.1 cx.2.1 dX10_findName_75 rfl (lv_at hl 2 rfl) ?_
        refine W.lcmp cx.1 cx.2.1 dX10_findName_76 ?_
        refine lv_if_ne (tgt := 89) cx.1 cx.2.1 dX10_findName_77 (by decide) (fun c77 => ?_) (fun c77 => ?_)
        · have h := md_in c77 h
          refine lv_iload cx.1 cx.2.1 dX10_findName_89 (lv_at hl 3 rfl) ?_
          exact J91 _ hj σ b l5 l4 _ _ _ (by omega) (by omega) (by omega) (by omega) h hw (lv_sub hl [0, 1, 2, 4] rfl)
        · have h := md_ip c77 h
          refine lv_sipush (v := 210) cx.1 cx.2.1 dX10_findName_80 (by decide) ?_
          refine lv_iload cx.1 cx.2.1 dX10_findName_83 (lv_at hl 4 rfl) ?_
          refine lv_iadd cx.1 cx.2.1 dX10_findName_85 ?_
          refine lv_goto (tgt := 91) cx.1 cx.2.1 dX10_findName_86 (by decide) ?_
          exact J91 _ hj σ b l5 (((210 : Int32) + l5)) _ _ _ (by omega) (by omega) (by omega) (by omega) h hw (lv_sub hl [0, 1, 2, 4] rfl)
  obtain ⟨q10, e_q10, h⟩ := md_ob h
  obtain ⟨hm11, hn11, h⟩ := cd_cks h
  have hM11 : p.2.2.1 ≤ q10.2.1.1 ∧ p.2.2.2 ≤ q10.2.1.2 := ⟨hm11, hn11⟩
  refine L61 n _ hj q7.1 (q7.2.1) ((cI σ0 326 0)) (q7.2.2) 2 0 q10 _ _ _ (by omega) (by omega) (by omega) (by omega) hM11.1 hM11.2 e_q10 hw (lv_sub hl [2, 3, 4, 1, 0] rfl) (fun ca hj H locs ls hb1 hb2 hw hl => ?_)
  refine lv_aload_n cx.1 cx.2.1 dX10_findName_99 rfl (lv_at hl 0 rfl) ?_
  refine lv_aload_n cx.1 cx.2.1 dX10_findName_100 rfl (lv_at hl 0 rfl) ?_
  refine cd_gI (o := 10) (k := 6) (f := 326) hj cx hw hic10 rfl ⟨by decide, rfl, by decide, rfl⟩ rfl (by decide) (List.mem_cons_of_mem _ cm_1047) dX10_findName_101 ?_
  refine lv_iload_n cx.1 cx.2.1 dX10_findName_104 rfl (lv_at hl 1 rfl) ?_
  refine lv_isub cx.1 cx.2.1 dX10_findName_105 ?_
  refine lv_bipush (v := 8) cx.1 cx.2.1 dX10_findName_106 (by decide) ?_
  refine lv_icmp_le (tgt := 115) cx.1 cx.2.1 dX10_findName_108 (by decide) (fun c108 => ?_) (fun c108 => ?_)
  · have h := md_ip c108 h
    refine lv_iload cx.1 cx.2.1 dX10_findName_115 (lv_at hl 3 rfl) ?_
    exact J117 _ hj q10.1 (q10.2.1) ((cI σ0 326 0)) (q7.2.2) (q10.2.2.1) _ _ _ (by omega) (by omega) (by omega) (by omega) h hw (lv_sub hl [1, 2] rfl)
  · have h := md_in c108 h
    refine lv_iconst (v := 1) cx.1 cx.2.1 dX10_findName_111 (by decide) ?_
    refine lv_goto (tgt := 117) cx.1 cx.2.1 dX10_findName_112 (by decide) ?_
    exact J117 _ hj q10.1 (q10.2.1) ((cI σ0 326 0)) (q7.2.2) 1 _ _ _ (by omega) (by omega) (by omega) (by omega) h hw (lv_sub hl [1, 2] rfl)
set_option maxHeartbeats 4000000 in
set_option maxRecDepth 100000 in
theorem kc_X10_findNumber (l : Launch) (D : va_G) (cA : Nat → ClassId) (E : hp_N) (sz : Nat) (ad : Nat → Nat → Nat) (ca0 : Nat → Nat) (hj : cd_inj ad ca0) (oq sgq sgv : Nat) (hE : cd_E E oq sgq sgv) (n : Nat) (σ0 : cd_S) (b0 : cd_B) (p : (Int32 × cd_S × cd_B)) (h : f_X10_findNumber n σ0 b0 = some p) : (p.2.2.1 ≤ b0.1 ∧ p.2.2.2 ≤ b0.2) ∧ Met l yX10_findNumber (Cond.code yX10_findNumber cX10_findNumber 4 none :: v_CLS) ({ frames := 5, cells := b0.1 - p.2.2.1, slots := b0.2 - p.2.2.2, locals := 135 }) (hp_Pc D vwCl (hp_Tl cA) E sz (cd_pic cA ad ca0 σ0) [.ref (ad 10 0)]) (hp_Qv D vwCl (hp_Tl cA) sz (cd_pic cA ad ca0 σ0) (fun u => ∃ ca1, cd_inj ad ca1 ∧ u = cd_pic cA ad ca1 p.2.1)) (b0.1 - p.2.2.1) (b0.2 - p.2.2.2) (hp_A (cd_pic cA ad ca0 σ0) sz) := by
  obtain ⟨hm0, hn0, h⟩ := cd_cks h
  have hM0 : p.2.2.1 ≤ b0.1 ∧ p.2.2.2 ≤ b0.2 := ⟨hm0, hn0⟩
  refine ⟨hM0, ?_⟩
  refine hp_ofW (cc := cX10_findNumber) (maxL := 4) (ret := none) (by decide) rfl (Nat.le_of_ble_eq_true rfl) ?_
  intro pp ee ss mm bb mt cd ls cx hsz hw hl
  have hl : lv_has ls 4 [(0, .ref (ad 10 0))] := hl
  refine W.widen (k := b0.1 - b0.1) (n := b0.2 - b0.2) (Nat.zero_le _) (Nat.zero_le _) ?_
  have J86 : ∀ (ca : Nat → Nat) (hj : cd_inj ad ca) (σ : cd_S) (b : cd_B) (l1 : Int32) (l2 : Int64) (t0 : Int32) (H : Heap) (locs : List Loc) (ls : Array Slot), b.1 ≤ b0.1 → b.2 ≤ b0.2 → p.2.2.1 ≤ b.1 → p.2.2.2 ≤ b.2 → f_X10_findNumber_J86 n σ b l1 l2 t0 = some p → hp_w D vwCl (hp_Tl cA) E (hp_A (cd_pic cA ad ca0 σ0) sz) ss H locs (cd_pic cA ad ca σ) → lv_has ls 4 [(1, .int l1), (2, .long l2)] → W pp l ee ({ frames := 5, cells := b0.1 - p.2.2.1, slots := b0.2 - p.2.2.2, locals := 135 }) ss mm [.ref (ad 10 0)].toArray bb mt cd H locs (b0.1 - b.1) (b0.2 - b.2) (MQ bb (hp_Qv D vwCl (hp_Tl cA) sz (cd_pic cA ad ca0 σ0) (fun u => ∃ ca1, cd_inj ad ca1 ∧ u = cd_pic cA ad ca1 p.2.1)) [.ref (ad 10 0)].toArray ss (b0.1 - p.2.2.1) (b0.2 - p.2.2.2) (hp_A (cd_pic cA ad ca0 σ0) sz)) (F0 mm 86 ls [.int t0, .ref (ad 10 0)]) := by
    intro ca hj σ b l1 l2 t0 H locs ls hb1 hb2 hf1 hf2 h hw hl
    refine lv_iload_n cx.1 cx.2.1 dX10_findNumber_86 rfl (lv_at hl 0 rfl) ?_
    refine lv_lload_n cx.1 cx.2.1 dX10_findNumber_87 rfl (lv_at hl 1 rfl) ?_
    obtain ⟨p1, e_p1, h⟩ := md_ob h
    obtain ⟨hm2, hn2, h⟩ := cd_cks h
    have hM2 : p.2.2.1 ≤ p1.2.2.1 ∧ p.2.2.2 ≤ p1.2.2.2 := ⟨hm2, hn2⟩
    have hle1 := (kc_X10_addWord l D cA E sz ad _ hj oq sgq sgv hE n σ b t0 l1 l2 p1 e_p1).1
    refine hp_callVv (As := [.int t0, .int l1, .long l2]) (rest := []) cx hw ((kc_X10_addWord l D cA E _ ad _ hj oq sgq sgv hE n σ b t0 l1 l2 p1 e_p1).2) (cwV 3 cx.2.2.2.2.2.1 (cd_giV cm_1054 cm_1055 cm_1056 cm_301 cm_1057) rfl rfl rfl hdc_X10_addWord ⟨Nat.le_of_ble_eq_true rfl, Nat.le_of_ble_eq_true rfl⟩) (cd_atO hj (by decide) (by decide)) rfl rfl hl.1 rfl (Nat.le_of_ble_eq_true rfl) dX10_findNumber_88 ⟨by (try dsimp only); omega, by (try dsimp only); omega⟩ (fun u H locs hp hw => ?_)
    obtain ⟨ca, hj, rfl⟩ := hp
    refine W.widen (k := b0.1 - p1.2.2.1) (n := b0.2 - p1.2.2.2) (by omega) (by omega) ?_
    exact hp_vret cx hw ((cd_retb hj h).2) dX10_findNumber_91 (cd_le1 h) (cd_le2 h)
  refine lv_aload_n cx.1 cx.2.1 dX10_findNumber_0 rfl (lv_at hl 0 rfl) ?_
  refine cd_gI (o := 10) (k := 6) (f := 326) hj cx hw hic10 rfl ⟨by decide, rfl, by decide, rfl⟩ rfl (by decide) (List.mem_cons_of_mem _ cm_1047) dX10_findNumber_1 ?_
  refine lv_istore_n (lv' := [(1, .int (cI σ0 326 0)), (0, .ref (ad 10 0))]) cx.1 cx.2.1 dX10_findNumber_4 rfl hl (by decide) rfl (fun ls hl => ?_)
  refine lv_lconst (v := 0) cx.1 cx.2.1 dX10_findNumber_5 (by decide) ?_
  refine lv_lstore_n (lv' := [(2, .long 0), (1, .int (cI σ0 326 0)), (0, .ref (ad 10 0))]) cx.1 cx.2.1 dX10_findNumber_6 rfl hl (by decide) rfl (fun ls hl => ?_)
  have L7 : ∀ (j : Nat) (ca : Nat → Nat) (hj : cd_inj ad ca) (σ : cd_S) (b : cd_B) (l1 : Int32) (l2 : Int64) (q : (cd_S × cd_B × Int64)) (H : Heap) (locs : List Loc) (ls : Array Slot), b.1 ≤ b0.1 → b.2 ≤ b0.2 → p.2.2.1 ≤ b.1 → p.2.2.2 ≤ b.2 → p.2.2.1 ≤ q.2.1.1 → p.2.2.2 ≤ q.2.1.2 → f_X10_findNumber_L7 n l1 j σ b l2 = some q → hp_w D vwCl (hp_Tl cA) E (hp_A (cd_pic cA ad ca0 σ0) sz) ss H locs (cd_pic cA ad ca σ) → lv_has ls 4 [(0, .ref (ad 10 0)), (1, .int l1), (2, .long l2)] → (∀ (ca : Nat → Nat) (hj : cd_inj ad ca) (H : Heap) (locs : List Loc) (ls : Array Slot), q.2.1.1 ≤ b0.1 → q.2.1.2 ≤ b0.2 → hp_w D vwCl (hp_Tl cA) E (hp_A (cd_pic cA ad ca0 σ0) sz) ss H locs (cd_pic cA ad ca q.1) → lv_has ls 4 [(0, .ref (ad 10 0)), (1, .int l1), (2, .long q.2.2)] → W pp l ee ({ frames := 5, cells := b0.1 - p.2.2.1, slots := b0.2 - p.2.2.2, locals := 135 }) ss mm [.ref (ad 10 0)].toArray bb mt cd H locs (b0.1 - q.2.1.1) (b0.2 - q.2.1.2) (MQ bb (hp_Qv D vwCl (hp_Tl cA) sz (cd_pic cA ad ca0 σ0) (fun u => ∃ ca1, cd_inj ad ca1 ∧ u = cd_pic cA ad ca1 p.2.1)) [.ref (ad 10 0)].toArray ss (b0.1 - p.2.2.1) (b0.2 - p.2.2.2) (hp_A (cd_pic cA ad ca0 σ0) sz)) (F0 mm 72 ls [])) → W pp l ee ({ frames := 5, cells := b0.1 - p.2.2.1, slots := b0.2 - p.2.2.2, locals := 135 }) ss mm [.ref (ad 10 0)].toArray bb mt cd H locs (b0.1 - b.1) (b0.2 - b.2) (MQ bb (hp_Qv D vwCl (hp_Tl cA) sz (cd_pic cA ad ca0 σ0) (fun u => ∃ ca1, cd_inj ad ca1 ∧ u = cd_pic cA ad ca1 p.2.1)) [.ref (ad 10 0)].toArray ss (b0.1 - p.2.2.1) (b0.2 - p.2.2.2) (hp_A (cd_pic cA ad ca0 σ0) sz)) (F0 mm 7 ls []) := by
    intro j
    induction j with
    | zero => intro ca hj σ b l1 l2 q H locs ls hb1 hb2 hf1 hf2 hq1 hq2 h; exact nomatch h
    | succ j ih =>
      intro ca hj σ b l1 l2 q H locs ls hb1 hb2 hf1 hf2 hq1 hq2 h hw hl K
      unfold f_X10_findNumber_L7 at h
      have J59 : ∀ (ca : Nat → Nat) (hj : cd_inj ad ca) (σ : cd_S) (b : cd_B) (l2 : Int64) (H : Heap) (locs : List Loc) (ls : Array Slot), b.1 ≤ b0.1 → b.2 ≤ b0.2 → p.2.2.1 ≤ b.1 → p.2.2.2 ≤ b.2 → f_X10_findNumber_J59 n l1 (f_X10_findNumber_L7 n l1 j) σ b l2 = some q → hp_w D vwCl (hp_Tl cA) E (hp_A (cd_pic cA ad ca0 σ0) sz) ss H locs (cd_pic cA ad ca σ) → lv_has ls 4 [(0, .ref (ad 10 0)), (1, .int l1), (2, .long l2)] → W pp l ee ({ frames := 5, cells := b0.1 - p.2.2.1, slots := b0.2 - p.2.2.2, locals := 135 }) ss mm [.ref (ad 10 0)].toArray bb mt cd H locs (b0.1 - b.1) (b0.2 - b.2) (MQ bb (hp_Qv D vwCl (hp_Tl cA) sz (cd_pic cA ad ca0 σ0) (fun u => ∃ ca1, cd_inj ad ca1 ∧ u = cd_pic cA ad ca1 p.2.1)) [.ref (ad 10 0)].toArray ss (b0.1 - p.2.2.1) (b0.2 - p.2.2.2) (hp_A (cd_pic cA ad ca0 σ0) sz)) (F0 mm 59 ls []) := by
        intro ca hj σ b l2 H locs ls hb1 hb2 hf1 hf2 h hw hl
        refine lv_aload_n cx.1 cx.2.1 dX10_findNumber_59 rfl (lv_at hl 0 rfl) ?_
        refine lv_dup cx.1 cx.2.1 dX10_findNumber_60 rfl ?_
        refine cd_gI (o := 10) (k := 6) (f := 326) hj cx hw hic10 rfl ⟨by decide, rfl, by decide, rfl⟩ rfl (by decide) (List.mem_cons_of_mem _ cm_1047) dX10_findNumber_61 ?_
        refine lv_iconst (v := 1) cx.1 cx.2.1 dX10_findNumber_64 (by decide) ?_
        refine lv_iadd cx.1 cx.2.1 dX10_findNumber_65 ?_
        obtain ⟨σ3, e_σ3, h⟩ := md_ob h
        refine cd_pI (o := 10) (k := 6) (f := 326) hj cx hw hic10 rfl ⟨by decide, rfl, by decide, rfl⟩ tyX10_ok nmX10 rfl (by decide) rfl (List.mem_cons_of_mem _ cm_1047) rfl e_σ3 dX10_findNumber_66 (fun H locs hw => ?_)
        refine lv_goto (tgt := 7) cx.1 cx.2.1 dX10_findNumber_69 (by decide) ?_
        exact ih _ hj σ3 b l1 l2 q _ _ _ (by omega) (by omega) (by omega) (by omega) hq1 hq2 h hw (lv_sub hl [0, 1, 2] rfl) K
      refine lv_aload_n cx.1 cx.2.1 dX10_findNumber_7 rfl (lv_at hl 0 rfl) ?_
      refine cd_gI (o := 10) (k := 6) (f := 326) hj cx hw hic10 rfl ⟨by decide, rfl, by decide, rfl⟩ rfl (by decide) (List.mem_cons_of_mem _ cm_1047) dX10_findNumber_8 ?_
      refine lv_aload_n cx.1 cx.2.1 dX10_findNumber_11 rfl (lv_at hl 0 rfl) ?_
      refine cd_gI (o := 10) (k := 4) (f := 324) hj cx hw hic10 rfl ⟨by decide, rfl, by decide, rfl⟩ rfl (by decide) (List.mem_cons_of_mem _ cm_1035) dX10_findNumber_12 ?_
      refine lv_icmp_ge (tgt := 72) cx.1 cx.2.1 dX10_findNumber_15 (by decide) (fun c15 => ?_) (fun c15 => ?_)
      · have h := md_ip c15 h
        obtain rfl := Option.some.inj h
        exact K _ hj _ _ _ (by (try dsimp only); omega) (by (try dsimp only); omega) hw (lv_sub hl [0, 1, 2] rfl)
      · have h := md_in c15 h
        refine lv_aload_n cx.1 cx.2.1 dX10_findNumber_18 rfl (lv_at hl 0 rfl) ?_
        refine lv_aload_n cx.1 cx.2.1 dX10_findNumber_19 rfl (lv_at hl 0 rfl) ?_
        refine cd_gI (o := 10) (k := 6) (f := 326) hj cx hw hic10 rfl ⟨by decide, rfl, by decide, rfl⟩ rfl (by decide) (List.mem_cons_of_mem _ cm_1047) dX10_findNumber_20 ?_
        obtain ⟨p4, e_p4, h⟩ := md_ob h
        refine hp_callVi (As := [.int (cI σ 326 0)]) (rest := []) cx hw (kc_X10_byteAt l D cA E _ ad _ hj oq sgq sgv hE n σ ((cI σ 326 0)) p4 e_p4) (cwV 1 cx.2.2.2.2.2.1 (cd_giV cm_1037 cm_1038 cm_1039 cm_301 cm_1040) rfl rfl rfl hdc_X10_byteAt ⟨Nat.le_of_ble_eq_true rfl, Nat.le_of_ble_eq_true rfl⟩) (cd_atO hj (by decide) (by decide)) rfl rfl hl.1 rfl (Nat.le_of_ble_eq_true rfl) dX10_findNumber_23 ⟨by (try dsimp only); omega, by (try dsimp only); omega⟩ (fun r u H locs hp hw => ?_)
        obtain ⟨rfl, ca, hj, rfl⟩ := hp
        obtain ⟨p5, e_p5, h⟩ := md_ob h
        refine hp_callSi (As := [.int p4.1]) (rest := []) cx hw (kc_X10_isDigit l D cA E _ ad _ hj oq sgq sgv hE n p4.2 (p4.1) p5 e_p5) (cwS 1 cx.2.2.2.2.2.1 (cd_giS cm_1044 cm_1045 cm_301 cm_1046) rfl rfl rfl hdc_X10_isDigit ⟨Nat.le_of_ble_eq_true rfl, Nat.le_of_ble_eq_true rfl⟩) rfl hl.1 rfl (Nat.le_of_ble_eq_true rfl) dX10_findNumber_26 ⟨by (try dsimp only); omega, by (try dsimp only); omega⟩ (fun r u H locs hp hw => ?_)
        obtain ⟨rfl, ca, hj, rfl⟩ := hp
        refine lv_if_eq (tgt := 72) cx.1 cx.2.1 dX10_findNumber_29 (by decide) (fun c29 => ?_) (fun c29 => ?_)
        · have h := md_ip c29 h
          obtain rfl := Option.some.inj h
          exact K _ hj _ _ _ (by (try dsimp only); omega) (by (try dsimp only); omega) hw (lv_sub hl [0, 1, 2] rfl)
        · have h := md_in c29 h
          refine lv_lload_n cx.1 cx.2.1 dX10_findNumber_32 rfl (lv_at hl 2 rfl) ?_
          refine lv_ldc2 cx.1 cx.2.1 cx.2.2.2.2.1 (cx.2.2.2.2.2.1 _ (List.mem_cons_of_mem _ cm_1058)) dX10_findNumber_33 ?_
          refine W.lcmp cx.1 cx.2.1 dX10_findNumber_36 ?_
          refine lv_if_gt (tgt := 59) cx.1 cx.2.1 dX10_findNumber_37 (by decide) (fun c37 => ?_) (fun c37 => ?_)
          · have h := md_ip c37 h
            exact J59 _ hj p5.2 b l2 _ _ _ (by omega) (by omega) (by omega) (by omega) h hw (lv_sub hl [0, 1, 2] rfl)
          · have h := md_in c37 h
            refine lv_lload_n cx.1 cx.2.1 dX10_findNumber_40 rfl (lv_at hl 2 rfl) ?_
            refine lv_ldc2 cx.1 cx.2.1 cx.2.2.2.2.1 (cx.2.2.2.2.2.1 _ (List.mem_cons_of_mem _ cm_1059)) dX10_findNumber_41 ?_
            refine lv_lmul cx.1 cx.2.1 dX10_findNumber_44 ?_
            refine lv_aload_n cx.1 cx.2.1 dX10_findNumber_45 rfl (lv_at hl 0 rfl) ?_
            refine lv_aload_n cx.1 cx.2.1 dX10_findNumber_46 rfl (lv_at hl 0 rfl) ?_
            refine cd_gI (o := 10) (k := 6) (f := 326) hj cx hw hic10 rfl ⟨by decide, rfl, by decide, rfl⟩ rfl (by decide) (List.mem_cons_of_mem _ cm_1047) dX10_findNumber_47 ?_
            obtain ⟨p6, e_p6, h⟩ := md_ob h
            refine hp_callVi (As := [.int (cI p5.2 326 0)]) (rest := [.long (l2 * 10)]) cx hw (kc_X10_byteAt l D cA E _ ad _ hj oq sgq sgv hE n p5.2 ((cI p5.2 326 0)) p6 e_p6) (cwV 1 cx.2.2.2.2.2.1 (cd_giV cm_1037 cm_1038 cm_1039 cm_301 cm_1040) rfl rfl rfl hdc_X10_byteAt ⟨Nat.le_of_ble_eq_true rfl, Nat.le_of_ble_eq_true rfl⟩) (cd_atO hj (by decide) (by decide)) rfl rfl hl.1 rfl (Nat.le_of_ble_eq_true rfl) dX10_findNumber_50 ⟨by (try dsimp only); omega, by (try dsimp only); omega⟩ (fun r u H locs hp hw => ?_)
            obtain ⟨rfl, ca, hj, rfl⟩ := hp
            refine lv_bipush (v := 48) cx.1 cx.2.1 dX10_findNumber_53 (by decide) ?_
            refine lv_isub cx.1 cx.2.1 dX10_findNumber_55 ?_
            refine lv_i2l (v := ((p6.1 - 48).toInt64)) cx.1 cx.2.1 dX10_findNumber_56 rfl ?_
            refine lv_ladd cx.1 cx.2.1 dX10_findNumber_57 ?_
            refine lv_lstore_n (lv' := [(2, .long ((l2 * 10) + ((p6.1 - 48).toInt64))), (0, .ref (ad 10 0)), (1, .int l1)]) cx.1 cx.2.1 dX10_findNumber_58 rfl hl (by decide) rfl (fun ls hl => ?_)
            exact J59 _ hj p6.2 b (((l2 * 10) + ((p6.1 - 48).toInt64))) _ _ _ (by omega) (by omega) (by omega) (by omega) h hw (lv_sub hl [1, 2, 0] rfl)
  obtain ⟨q7, e_q7, h⟩ := md_ob h
  obtain ⟨hm8, hn8, h⟩ := cd_cks h
  have hM8 : p.2.2.1 ≤ q7.2.1.1 ∧ p.2.2.2 ≤ q7.2.1.2 := ⟨hm8, hn8⟩
  refine L7 n _ hj σ0 b0 ((cI σ0 326 0)) 0 q7 _ _ _ (by omega) (by omega) (by omega) (by omega) hM8.1 hM8.2 e_q7 hw (lv_sub hl [2, 1, 0] rfl) (fun ca hj H locs ls hb1 hb2 hw hl => ?_)
  refine lv_aload_n cx.1 cx.2.1 dX10_findNumber_72 rfl (lv_at hl 0 rfl) ?_
  refine lv_lload_n cx.1 cx.2.1 dX10_findNumber_73 rfl (lv_at hl 2 rfl) ?_
  refine lv_ldc2 cx.1 cx.2.1 cx.2.2.2.2.1 (cx.2.2.2.2.2.1 _ (List.mem_cons_of_mem _ cm_1058)) dX10_findNumber_74 ?_
  refine W.lcmp cx.1 cx.2.1 dX10_findNumber_77 ?_
  refine lv_if_le (tgt := 85) cx.1 cx.2.1 dX10_findNumber_78 (by decide) (fun c78 => ?_) (fun c78 => ?_)
  · have h := md_ip c78 h
    refine lv_iconst (v := 3) cx.1 cx.2.1 dX10_findNumber_85 (by decide) ?_
    exact J86 _ hj q7.1 (q7.2.1) ((cI σ0 326 0)) (q7.2.2) 3 _ _ _ (by omega) (by omega) (by omega) (by omega) h hw (lv_sub hl [1, 2] rfl)
  · have h := md_in c78 h
    refine lv_iconst (v := 1) cx.1 cx.2.1 dX10_findNumber_81 (by decide) ?_
    refine lv_goto (tgt := 86) cx.1 cx.2.1 dX10_findNumber_82 (by decide) ?_
    exact J86 _ hj q7.1 (q7.2.1) ((cI σ0 326 0)) (q7.2.2) 1 _ _ _ (by omega) (by omega) (by omega) (by omega) h hw (lv_sub hl [1, 2] rfl)
set_option maxHeartbeats 4000000 in
set_option maxRecDepth 100000 in
theorem kc_X10_findStep (l : Launch) (D : va_G) (cA : Nat → ClassId) (E : hp_N) (sz : Nat) (ad : Nat → Nat → Nat) (ca0 : Nat → Nat) (hj : cd_inj ad ca0) (oq sgq sgv : Nat) (hE : cd_E E oq sgq sgv) (n : Nat) (σ0 : cd_S) (b0 : cd_B) (p : (Int32 × cd_S × cd_B)) (h : f_X10_findStep n σ0 b0 = some p) : (p.2.2.1 ≤ b0.1 ∧ p.2.2.2 ≤ b0.2) ∧ Met l yX10_findStep (Cond.code yX10_findStep cX10_findStep 4 (some .boolean) :: v_CLS) ({ frames := 4, cells := b0.1 - p.2.2.1, slots := b0.2 - p.2.2.2, locals := 111 }) (hp_Pc D vwCl (hp_Tl cA) E sz (cd_pic cA ad ca0 σ0) [.ref (ad 10 0)]) (hp_Qi D vwCl (hp_Tl cA) sz (cd_pic cA ad ca0 σ0) (fun r u => r = p.1 ∧ ∃ ca1, cd_inj ad ca1 ∧ u = cd_pic cA ad ca1 p.2.1)) (b0.1 - p.2.2.1) (b0.2 - p.2.2.2) (hp_A (cd_pic cA ad ca0 σ0) sz) := by
  obtain ⟨hm0, hn0, h⟩ := cd_cks h
  have hM0 : p.2.2.1 ≤ b0.1 ∧ p.2.2.2 ≤ b0.2 := ⟨hm0, hn0⟩
  refine ⟨hM0, ?_⟩
  refine hp_ofW (cc := cX10_findStep) (maxL := 4) (ret := (some .boolean)) (by decide) rfl (Nat.le_of_ble_eq_true rfl) ?_
  intro pp ee ss mm bb mt cd ls cx hsz hw hl
  have hl : lv_has ls 4 [(0, .ref (ad 10 0))] := hl
  refine W.widen (k := b0.1 - b0.1) (n := b0.2 - b0.2) (Nat.zero_le _) (Nat.zero_le _) ?_
  refine lv_aload_n cx.1 cx.2.1 dX10_findStep_0 rfl (lv_at hl 0 rfl) ?_
  refine cd_gI (o := 10) (k := 6) (f := 326) hj cx hw hic10 rfl ⟨by decide, rfl, by decide, rfl⟩ rfl (by decide) (List.mem_cons_of_mem _ cm_1047) dX10_findStep_1 ?_
  refine lv_iconst (v := 1) cx.1 cx.2.1 dX10_findStep_4 (by decide) ?_
  refine lv_iadd cx.1 cx.2.1 dX10_findStep_5 ?_
  refine lv_istore_n (lv' := [(1, .int ((cI σ0 326 0) + 1)), (0, .ref (ad 10 0))]) cx.1 cx.2.1 dX10_findStep_6 rfl hl (by decide) rfl (fun ls hl => ?_)
  refine lv_lconst (v := 0) cx.1 cx.2.1 dX10_findStep_7 (by decide) ?_
  refine lv_lstore_n (lv' := [(2, .long 0), (1, .int ((cI σ0 326 0) + 1)), (0, .ref (ad 10 0))]) cx.1 cx.2.1 dX10_findStep_8 rfl hl (by decide) rfl (fun ls hl => ?_)
  refine lv_aload_n cx.1 cx.2.1 dX10_findStep_9 rfl (lv_at hl 2 rfl) ?_
  refine lv_iload_n cx.1 cx.2.1 dX10_findStep_10 rfl (lv_at hl 1 rfl) ?_
  obtain ⟨σ1, e_σ1, h⟩ := md_ob h
  refine cd_pI (o := 10) (k := 6) (f := 326) hj cx hw hic10 rfl ⟨by decide, rfl, by decide, rfl⟩ tyX10_ok nmX10 rfl (by decide) rfl (List.mem_cons_of_mem _ cm_1047) rfl e_σ1 dX10_findStep_11 (fun H locs hw => ?_)
  have L14 : ∀ (j : Nat) (ca : Nat → Nat) (hj : cd_inj ad ca) (σ : cd_S) (b : cd_B) (l1 : Int32) (l2 : Int64) (q : (cd_S × cd_B × Int64)) (H : Heap) (locs : List Loc) (ls : Array Slot), b.1 ≤ b0.1 → b.2 ≤ b0.2 → p.2.2.1 ≤ b.1 → p.2.2.2 ≤ b.2 → p.2.2.1 ≤ q.2.1.1 → p.2.2.2 ≤ q.2.1.2 → f_X10_findStep_L14 n l1 j σ b l2 = some q → hp_w D vwCl (hp_Tl cA) E (hp_A (cd_pic cA ad ca0 σ0) sz) ss H locs (cd_pic cA ad ca σ) → lv_has ls 4 [(0, .ref (ad 10 0)), (1, .int l1), (2, .long l2)] → (∀ (ca : Nat → Nat) (hj : cd_inj ad ca) (H : Heap) (locs : List Loc) (ls : Array Slot), q.2.1.1 ≤ b0.1 → q.2.1.2 ≤ b0.2 → hp_w D vwCl (hp_Tl cA) E (hp_A (cd_pic cA ad ca0 σ0) sz) ss H locs (cd_pic cA ad ca q.1) → lv_has ls 4 [(0, .ref (ad 10 0)), (1, .int l1), (2, .long q.2.2)] → W pp l ee ({ frames := 4, cells := b0.1 - p.2.2.1, slots := b0.2 - p.2.2.2, locals := 111 }) ss mm [.ref (ad 10 0)].toArray bb mt cd H locs (b0.1 - q.2.1.1) (b0.2 - q.2.1.2) (MQ bb (hp_Qi D vwCl (hp_Tl cA) sz (cd_pic cA ad ca0 σ0) (fun r u => r = p.1 ∧ ∃ ca1, cd_inj ad ca1 ∧ u = cd_pic cA ad ca1 p.2.1)) [.ref (ad 10 0)].toArray ss (b0.1 - p.2.2.1) (b0.2 - p.2.2.2) (hp_A (cd_pic cA ad ca0 σ0) sz)) (F0 mm 62 ls [])) → W pp l ee ({ frames := 4, cells := b0.1 - p.2.2.1, slots := b0.2 - p.2.2.2, locals := 111 }) ss mm [.ref (ad 10 0)].toArray bb mt cd H locs (b0.1 - b.1) (b0.2 - b.2) (MQ bb (hp_Qi D vwCl (hp_Tl cA) sz (cd_pic cA ad ca0 σ0) (fun r u => r = p.1 ∧ ∃ ca1, cd_inj ad ca1 ∧ u = cd_pic cA ad ca1 p.2.1)) [.ref (ad 10 0)].toArray ss (b0.1 - p.2.2.1) (b0.2 - p.2.2.2) (hp_A (cd_pic cA ad ca0 σ0) sz)) (F0 mm 14 ls []) := by
    intro j
    induction j with
    | zero => intro ca hj σ b l1 l2 q H locs ls hb1 hb2 hf1 hf2 hq1 hq2 h; exact nomatch h
    | succ j ih =>
      intro ca hj σ b l1 l2 q H locs ls hb1 hb2 hf1 hf2 hq1 hq2 h hw hl K
      unfold f_X10_findStep_L14 at h
      refine lv_aload_n cx.1 cx.2.1 dX10_findStep_14 rfl (lv_at hl 0 rfl) ?_
      refine cd_gI (o := 10) (k := 6) (f := 326) hj cx hw hic10 rfl ⟨by decide, rfl, by decide, rfl⟩ rfl (by decide) (List.mem_cons_of_mem _ cm_1047) dX10_findStep_15 ?_
      refine lv_aload_n cx.1 cx.2.1 dX10_findStep_18 rfl (lv_at hl 0 rfl) ?_
      refine cd_gI (o := 10) (k := 4) (f := 324) hj cx hw hic10 rfl ⟨by decide, rfl, by decide, rfl⟩ rfl (by decide) (List.mem_cons_of_mem _ cm_1035) dX10_findStep_19 ?_
      refine lv_icmp_ge (tgt := 62) cx.1 cx.2.1 dX10_findStep_22 (by decide) (fun c22 => ?_) (fun c22 => ?_)
      · have h := md_ip c22 h
        obtain rfl := Option.some.inj h
        exact K _ hj _ _ _ (by (try dsimp only); omega) (by (try dsimp only); omega) hw (lv_sub hl [0, 1, 2] rfl)
      · have h := md_in c22 h
        refine lv_aload_n cx.1 cx.2.1 dX10_findStep_25 rfl (lv_at hl 0 rfl) ?_
        refine lv_aload_n cx.1 cx.2.1 dX10_findStep_26 rfl (lv_at hl 0 rfl) ?_
        refine cd_gI (o := 10) (k := 6) (f := 326) hj cx hw hic10 rfl ⟨by decide, rfl, by decide, rfl⟩ rfl (by decide) (List.mem_cons_of_mem _ cm_1047) dX10_findStep_27 ?_
        obtain ⟨p2, e_p2, h⟩ := md_ob h
        refine hp_callVi (As := [.int (cI σ 326 0)]) (rest := []) cx hw (kc_X10_stepCharAt l D cA E _ ad _ hj oq sgq sgv hE n σ ((cI σ 326 0)) p2 e_p2) (cwV 1 cx.2.2.2.2.2.1 (cd_giV cm_1048 cm_1049 cm_1050 cm_301 cm_1051) rfl rfl rfl hdc_X10_stepCharAt ⟨Nat.le_of_ble_eq_true rfl, Nat.le_of_ble_eq_true rfl⟩) (cd_atO hj (by decide) (by decide)) rfl rfl hl.1 rfl (Nat.le_of_ble_eq_true rfl) dX10_findStep_30 ⟨by (try dsimp only); omega, by (try dsimp only); omega⟩ (fun r u H locs hp hw => ?_)
        obtain ⟨rfl, ca, hj, rfl⟩ := hp
        refine lv_if_eq (tgt := 62) cx.1 cx.2.1 dX10_findStep_33 (by decide) (fun c33 => ?_) (fun c33 => ?_)
        · have h := md_ip c33 h
          obtain rfl := Option.some.inj h
          exact K _ hj _ _ _ (by (try dsimp only); omega) (by (try dsimp only); omega) hw (lv_sub hl [0, 1, 2] rfl)
        · have h := md_in c33 h
          refine lv_lload_n cx.1 cx.2.1 dX10_findStep_36 rfl (lv_at hl 2 rfl) ?_
          refine lv_aload_n cx.1 cx.2.1 dX10_findStep_37 rfl (lv_at hl 0 rfl) ?_
          refine lv_aload_n cx.1 cx.2.1 dX10_findStep_38 rfl (lv_at hl 0 rfl) ?_
          refine cd_gI (o := 10) (k := 6) (f := 326) hj cx hw hic10 rfl ⟨by decide, rfl, by decide, rfl⟩ rfl (by decide) (List.mem_cons_of_mem _ cm_1047) dX10_findStep_39 ?_
          obtain ⟨p3, e_p3, h⟩ := md_ob h
          refine hp_callVi (As := [.int (cI p2.2 326 0)]) (rest := [.long l2]) cx hw (kc_X10_byteAt l D cA E _ ad _ hj oq sgq sgv hE n p2.2 ((cI p2.2 326 0)) p3 e_p3) (cwV 1 cx.2.2.2.2.2.1 (cd_giV cm_1037 cm_1038 cm_1039 cm_301 cm_1040) rfl rfl rfl hdc_X10_byteAt ⟨Nat.le_of_ble_eq_true rfl, Nat.le_of_ble_eq_true rfl⟩) (cd_atO hj (by decide) (by decide)) rfl rfl hl.1 rfl (Nat.le_of_ble_eq_true rfl) dX10_findStep_42 ⟨by (try dsimp only); omega, by (try dsimp only); omega⟩ (fun r u H locs hp hw => ?_)
          obtain ⟨rfl, ca, hj, rfl⟩ := hp
          obtain ⟨p4, e_p4, h⟩ := md_ob h
          refine hp_callSl (As := [.long l2, .int p3.1]) (rest := []) cx hw (kc_X10_codeWith l D cA E _ ad _ hj oq sgq sgv hE n p3.2 l2 (p3.1) p4 e_p4) (cwS 2 cx.2.2.2.2.2.1 (cd_giS cm_1052 cm_300 cm_301 cm_302) rfl rfl rfl hdc_X10_codeWith ⟨Nat.le_of_ble_eq_true rfl, Nat.le_of_ble_eq_true rfl⟩) rfl hl.1 rfl (Nat.le_of_ble_eq_true rfl) dX10_findStep_45 ⟨by (try dsimp only); omega, by (try dsimp only); omega⟩ (fun r u H locs hp hw => ?_)
          obtain ⟨rfl, ca, hj, rfl⟩ := hp
          refine lv_lstore_n (lv' := [(2, .long p4.1), (0, .ref (ad 10 0)), (1, .int l1)]) cx.1 cx.2.1 dX10_findStep_48 rfl hl (by decide) rfl (fun ls hl => ?_)
          refine lv_aload_n cx.1 cx.2.1 dX10_findStep_49 rfl (lv_at hl 1 rfl) ?_
          refine lv_dup cx.1 cx.2.1 dX10_findStep_50 rfl ?_
          refine cd_gI (o := 10) (k := 6) (f := 326) hj cx hw hic10 rfl ⟨by decide, rfl, by decide, rfl⟩ rfl (by decide) (List.mem_cons_of_mem _ cm_1047) dX10_findStep_51 ?_
          refine lv_iconst (v := 1) cx.1 cx.2.1 dX10_findStep_54 (by decide) ?_
          refine lv_iadd cx.1 cx.2.1 dX10_findStep_55 ?_
          obtain ⟨σ5, e_σ5, h⟩ := md_ob h
          refine cd_pI (o := 10) (k := 6) (f := 326) hj cx hw hic10 rfl ⟨by decide, rfl, by decide, rfl⟩ tyX10_ok nmX10 rfl (by decide) rfl (List.mem_cons_of_mem _ cm_1047) rfl e_σ5 dX10_findStep_56 (fun H locs hw => ?_)
          refine lv_goto (tgt := 14) cx.1 cx.2.1 dX10_findStep_59 (by decide) ?_
          exact ih _ hj σ5 b l1 (p4.1) q _ _ _ (by omega) (by omega) (by omega) (by omega) hq1 hq2 h hw (lv_sub hl [1, 2, 0] rfl) K
  obtain ⟨q6, e_q6, h⟩ := md_ob h
  obtain ⟨hm7, hn7, h⟩ := cd_cks h
  have hM7 : p.2.2.1 ≤ q6.2.1.1 ∧ p.2.2.2 ≤ q6.2.1.2 := ⟨hm7, hn7⟩
  refine L14 n _ hj σ1 b0 (((cI σ0 326 0) + 1)) 0 q6 _ _ _ (by omega) (by omega) (by omega) (by omega) hM7.1 hM7.2 e_q6 hw (lv_sub hl [2, 1, 0] rfl) (fun ca hj H locs ls hb1 hb2 hw hl => ?_)
  refine lv_aload_n cx.1 cx.2.1 dX10_findStep_62 rfl (lv_at hl 0 rfl) ?_
  refine cd_gO (o2 := 6) (e2 := 1) (o := 10) (k := 2) (f := 322) hj cx hw hic10 rfl ⟨by decide, rfl, by decide, rfl⟩ rfl (by decide) ⟨rfl, rfl⟩ (List.mem_cons_of_mem _ cm_675) dX10_findStep_63 ?_
  refine lv_lload_n cx.1 cx.2.1 dX10_findStep_66 rfl (lv_at hl 2 rfl) ?_
  obtain ⟨p8, e_p8, h⟩ := md_ob h
  obtain ⟨hm9, hn9, h⟩ := cd_cks h
  have hM9 : p.2.2.1 ≤ p8.2.2.1 ∧ p.2.2.2 ≤ p8.2.2.2 := ⟨hm9, hn9⟩
  have hle8 := (kc_X6_add l D cA E sz ad _ hj oq sgq sgv hE n q6.1 (q6.2.1) 1 (q6.2.2) (by decide) p8 e_p8).1
  refine hp_callVv (As := [.long q6.2.2]) (rest := []) cx hw ((kc_X6_add l D cA E _ ad _ hj oq sgq sgv hE n q6.1 (q6.2.1) 1 (q6.2.2) (by decide) p8 e_p8).2) (cwV 1 cx.2.2.2.2.2.1 (cd_giV cm_1034 cm_40 cm_41 cm_5 cm_42) rfl rfl rfl hdc_X6_add ⟨Nat.le_of_ble_eq_true rfl, Nat.le_of_ble_eq_true rfl⟩) (cd_atO hj (by decide) (by decide)) rfl rfl hl.1 rfl (Nat.le_of_ble_eq_true rfl) dX10_findStep_67 ⟨by (try dsimp only); omega, by (try dsimp only); omega⟩ (fun u H locs hp hw => ?_)
  obtain ⟨ca, hj, rfl⟩ := hp
  refine W.widen (k := b0.1 - p8.2.2.1) (n := b0.2 - p8.2.2.2) (by omega) (by omega) ?_
  refine lv_aload_n cx.1 cx.2.1 dX10_findStep_70 rfl (lv_at hl 0 rfl) ?_
  refine cd_gI (o := 10) (k := 6) (f := 326) hj cx hw hic10 rfl ⟨by decide, rfl, by decide, rfl⟩ rfl (by decide) (List.mem_cons_of_mem _ cm_1047) dX10_findStep_71 ?_
  refine lv_iload_n cx.1 cx.2.1 dX10_findStep_74 rfl (lv_at hl 1 rfl) ?_
  refine lv_isub cx.1 cx.2.1 dX10_findStep_75 ?_
  refine lv_bipush (v := 6) cx.1 cx.2.1 dX10_findStep_76 (by decide) ?_
  refine lv_icmp_gt (tgt := 85) cx.1 cx.2.1 dX10_findStep_78 (by decide) (fun c78 => ?_) (fun c78 => ?_)
  · have h := md_ip c78 h
    refine lv_iconst (v := 0) cx.1 cx.2.1 dX10_findStep_85 (by decide) ?_
    exact hp_zret cx hw (cd_retb hj h) (by decide) dX10_findStep_86 (cd_le1 h) (cd_le2 h)
  · have h := md_in c78 h
    refine lv_iconst (v := 1) cx.1 cx.2.1 dX10_findStep_81 (by decide) ?_
    refine lv_goto (tgt := 86) cx.1 cx.2.1 dX10_findStep_82 (by decide) ?_
    exact hp_zret cx hw (cd_retb hj h) (by decide) dX10_findStep_86 (cd_le1 h) (cd_le2 h)
set_option maxHeartbeats 4000000 in
set_option maxRecDepth 100000 in
theorem kc_X10_findPattern (l : Launch) (D : va_G) (cA : Nat → ClassId) (E : hp_N) (sz : Nat) (ad : Nat → Nat → Nat) (ca0 : Nat → Nat) (hj : cd_inj ad ca0) (oq sgq sgv : Nat) (hE : cd_E E oq sgq sgv) (n : Nat) (σ0 : cd_S) (b0 : cd_B) (p : (Int32 × cd_S × cd_B)) (h : f_X10_findPattern n σ0 b0 = some p) : (p.2.2.1 ≤ b0.1 ∧ p.2.2.2 ≤ b0.2) ∧ Met l yX10_findPattern (Cond.code yX10_findPattern cX10_findPattern 6 none :: v_CLS) ({ frames := 5, cells := b0.1 - p.2.2.1, slots := b0.2 - p.2.2.2, locals := 135 }) (hp_Pc D vwCl (hp_Tl cA) E sz (cd_pic cA ad ca0 σ0) [.ref (ad 10 0)]) (hp_Qv D vwCl (hp_Tl cA) sz (cd_pic cA ad ca0 σ0) (fun u => ∃ ca1, cd_inj ad ca1 ∧ u = cd_pic cA ad ca1 p.2.1)) (b0.1 - p.2.2.1) (b0.2 - p.2.2.2) (hp_A (cd_pic cA ad ca0 σ0) sz) := by
  obtain ⟨hm0, hn0, h⟩ := cd_cks h
  have hM0 : p.2.2.1 ≤ b0.1 ∧ p.2.2.2 ≤ b0.2 := ⟨hm0, hn0⟩
  refine ⟨hM0, ?_⟩
  refine hp_ofW (cc := cX10_findPattern) (maxL := 6) (ret := none) (by decide) rfl (Nat.le_of_ble_eq_true rfl) ?_
  intro pp ee ss mm bb mt cd ls cx hsz hw hl
  have hl : lv_has ls 6 [(0, .ref (ad 10 0))] := hl
  refine W.widen (k := b0.1 - b0.1) (n := b0.2 - b0.2) (Nat.zero_le _) (Nat.zero_le _) ?_
  have J204 : ∀ (ca : Nat → Nat) (hj : cd_inj ad ca) (σ : cd_S) (b : cd_B) (l1 : Int32) (l2 : Int32) (t0 : Int32) (H : Heap) (locs : List Loc) (ls : Array Slot), b.1 ≤ b0.1 → b.2 ≤ b0.2 → p.2.2.1 ≤ b.1 → p.2.2.2 ≤ b.2 → f_X10_findPattern_J204 n σ b l1 l2 t0 = some p → hp_w D vwCl (hp_Tl cA) E (hp_A (cd_pic cA ad ca0 σ0) sz) ss H locs (cd_pic cA ad ca σ) → lv_has ls 6 [(1, .int l1), (2, .int l2)] → W pp l ee ({ frames := 5, cells := b0.1 - p.2.2.1, slots := b0.2 - p.2.2.2, locals := 135 }) ss mm [.ref (ad 10 0)].toArray bb mt cd H locs (b0.1 - b.1) (b0.2 - b.2) (MQ bb (hp_Qv D vwCl (hp_Tl cA) sz (cd_pic cA ad ca0 σ0) (fun u => ∃ ca1, cd_inj ad ca1 ∧ u = cd_pic cA ad ca1 p.2.1)) [.ref (ad 10 0)].toArray ss (b0.1 - p.2.2.1) (b0.2 - p.2.2.2) (hp_A (cd_pic cA ad ca0 σ0) sz)) (F0 mm 204 ls [.int t0, .ref (ad 10 0)]) := by
    intro ca hj σ b l1 l2 t0 H locs ls hb1 hb2 hf1 hf2 h hw hl
    refine lv_iload_n cx.1 cx.2.1 dX10_findPattern_204 rfl (lv_at hl 0 rfl) ?_
    refine lv_iload_n cx.1 cx.2.1 dX10_findPattern_205 rfl (lv_at hl 1 rfl) ?_
    refine lv_i2l (v := (l2.toInt64)) cx.1 cx.2.1 dX10_findPattern_206 rfl ?_
    obtain ⟨p1, e_p1, h⟩ := md_ob h
    obtain ⟨hm2, hn2, h⟩ := cd_cks h
    have hM2 : p.2.2.1 ≤ p1.2.2.1 ∧ p.2.2.2 ≤ p1.2.2.2 := ⟨hm2, hn2⟩
    have hle1 := (kc_X10_addWord l D cA E sz ad _ hj oq sgq sgv hE n σ b t0 l1 ((l2.toInt64)) p1 e_p1).1
    refine hp_callVv (As := [.int t0, .int l1, .long (l2.toInt64)]) (rest := []) cx hw ((kc_X10_addWord l D cA E _ ad _ hj oq sgq sgv hE n σ b t0 l1 ((l2.toInt64)) p1 e_p1).2) (cwV 3 cx.2.2.2.2.2.1 (cd_giV cm_1054 cm_1055 cm_1056 cm_301 cm_1057) rfl rfl rfl hdc_X10_addWord ⟨Nat.le_of_ble_eq_true rfl, Nat.le_of_ble_eq_true rfl⟩) (cd_atO hj (by decide) (by decide)) rfl rfl hl.1 rfl (Nat.le_of_ble_eq_true rfl) dX10_findPattern_207 ⟨by (try dsimp only); omega, by (try dsimp only); omega⟩ (fun u H locs hp hw => ?_)
    obtain ⟨ca, hj, rfl⟩ := hp
    refine W.widen (k := b0.1 - p1.2.2.1) (n := b0.2 - p1.2.2.2) (by omega) (by omega) ?_
    exact hp_vret cx hw ((cd_retb hj h).2) dX10_findPattern_210 (cd_le1 h) (cd_le2 h)
  have J203 : ∀ (ca : Nat → Nat) (hj : cd_inj ad ca) (σ : cd_S) (b : cd_B) (l1 : Int32) (l2 : Int32) (H : Heap) (locs : List Loc) (ls : Array Slot), b.1 ≤ b0.1 → b.2 ≤ b0.2 → p.2.2.1 ≤ b.1 → p.2.2.2 ≤ b.2 → f_X10_findPattern_J203 n σ b l1 l2 = some p → hp_w D vwCl (hp_Tl cA) E (hp_A (cd_pic cA ad ca0 σ0) sz) ss H locs (cd_pic cA ad ca σ) → lv_has ls 6 [(1, .int l1), (2, .int l2)] → W pp l ee ({ frames := 5, cells := b0.1 - p.2.2.1, slots := b0.2 - p.2.2.2, locals := 135 }) ss mm [.ref (ad 10 0)].toArray bb mt cd H locs (b0.1 - b.1) (b0.2 - b.2) (MQ bb (hp_Qv D vwCl (hp_Tl cA) sz (cd_pic cA ad ca0 σ0) (fun u => ∃ ca1, cd_inj ad ca1 ∧ u = cd_pic cA ad ca1 p.2.1)) [.ref (ad 10 0)].toArray ss (b0.1 - p.2.2.1) (b0.2 - p.2.2.2) (hp_A (cd_pic cA ad ca0 σ0) sz)) (F0 mm 203 ls [.ref (ad 10 0)]) := by
    intro ca hj σ b l1 l2 H locs ls hb1 hb2 hf1 hf2 h hw hl
    refine lv_iconst (v := 1) cx.1 cx.2.1 dX10_findPattern_203 (by decide) ?_
    exact J204 _ hj σ b l1 l2 1 _ _ _ (by omega) (by omega) (by omega) (by omega) h hw (lv_sub hl [0, 1] rfl)
  have J185 : ∀ (ca : Nat → Nat) (hj : cd_inj ad ca) (σ : cd_S) (b : cd_B) (l1 : Int32) (l2 : Int32) (l3 : Int32) (l4 : Int32) (H : Heap) (locs : List Loc) (ls : Array Slot), b.1 ≤ b0.1 → b.2 ≤ b0.2 → p.2.2.1 ≤ b.1 → p.2.2.2 ≤ b.2 → f_X10_findPattern_J185 n σ b l1 l2 l3 l4 = some p → hp_w D vwCl (hp_Tl cA) E (hp_A (cd_pic cA ad ca0 σ0) sz) ss H locs (cd_pic cA ad ca σ) → lv_has ls 6 [(0, .ref (ad 10 0)), (1, .int l1), (2, .int l2), (3, .int l3), (4, .int l4)] → W pp l ee ({ frames := 5, cells := b0.1 - p.2.2.1, slots := b0.2 - p.2.2.2, locals := 135 }) ss mm [.ref (ad 10 0)].toArray bb mt cd H locs (b0.1 - b.1) (b0.2 - b.2) (MQ bb (hp_Qv D vwCl (hp_Tl cA) sz (cd_pic cA ad ca0 σ0) (fun u => ∃ ca1, cd_inj ad ca1 ∧ u = cd_pic cA ad ca1 p.2.1)) [.ref (ad 10 0)].toArray ss (b0.1 - p.2.2.1) (b0.2 - p.2.2.2) (hp_A (cd_pic cA ad ca0 σ0) sz)) (F0 mm 185 ls []) := by
    intro ca hj σ b l1 l2 l3 l4 H locs ls hb1 hb2 hf1 hf2 h hw hl
    refine lv_aload_n cx.1 cx.2.1 dX10_findPattern_185 rfl (lv_at hl 0 rfl) ?_
    refine lv_iload cx.1 cx.2.1 dX10_findPattern_186 (lv_at hl 4 rfl) ?_
    refine lv_if_eq (tgt := 203) cx.1 cx.2.1 dX10_findPattern_188 (by decide) (fun c188 => ?_) (fun c188 => ?_)
    · have h := md_ip c188 h
      exact J203 _ hj σ b l1 l2 _ _ _ (by omega) (by omega) (by omega) (by omega) h hw (lv_sub hl [1, 2] rfl)
    · have h := md_in c188 h
      refine lv_iload_n cx.1 cx.2.1 dX10_findPattern_191 rfl (lv_at hl 3 rfl) ?_
      refine lv_aload_n cx.1 cx.2.1 dX10_findPattern_192 rfl (lv_at hl 0 rfl) ?_
      refine cd_gI (o := 10) (k := 5) (f := 325) hj cx hw hic10 rfl ⟨by decide, rfl, by decide, rfl⟩ rfl (by decide) (List.mem_cons_of_mem _ cm_1066) dX10_findPattern_193 ?_
      refine lv_icmp_gt (tgt := 203) cx.1 cx.2.1 dX10_findPattern_196 (by decide) (fun c196 => ?_) (fun c196 => ?_)
      · have h := md_ip c196 h
        exact J203 _ hj σ b l1 l2 _ _ _ (by omega) (by omega) (by omega) (by omega) h hw (lv_sub hl [1, 2] rfl)
      · have h := md_in c196 h
        refine lv_iconst (v := 4) cx.1 cx.2.1 dX10_findPattern_199 (by decide) ?_
        refine lv_goto (tgt := 204) cx.1 cx.2.1 dX10_findPattern_200 (by decide) ?_
        exact J204 _ hj σ b l1 l2 4 _ _ _ (by omega) (by omega) (by omega) (by omega) h hw (lv_sub hl [1, 2] rfl)
  have J178 : ∀ (ca : Nat → Nat) (hj : cd_inj ad ca) (σ : cd_S) (b : cd_B) (l1 : Int32) (l2 : Int32) (l3 : Int32) (l4 : Int32) (H : Heap) (locs : List Loc) (ls : Array Slot), b.1 ≤ b0.1 → b.2 ≤ b0.2 → p.2.2.1 ≤ b.1 → p.2.2.2 ≤ b.2 → f_X10_findPattern_J178 n σ b l1 l2 l3 l4 = some p → hp_w D vwCl (hp_Tl cA) E (hp_A (cd_pic cA ad ca0 σ0) sz) ss H locs (cd_pic cA ad ca σ) → lv_has ls 6 [(0, .ref (ad 10 0)), (1, .int l1), (2, .int l2), (3, .int l3), (4, .int l4)] → W pp l ee ({ frames := 5, cells := b0.1 - p.2.2.1, slots := b0.2 - p.2.2.2, locals := 135 }) ss mm [.ref (ad 10 0)].toArray bb mt cd H locs (b0.1 - b.1) (b0.2 - b.2) (MQ bb (hp_Qv D vwCl (hp_Tl cA) sz (cd_pic cA ad ca0 σ0) (fun u => ∃ ca1, cd_inj ad ca1 ∧ u = cd_pic cA ad ca1 p.2.1)) [.ref (ad 10 0)].toArray ss (b0.1 - p.2.2.1) (b0.2 - p.2.2.2) (hp_A (cd_pic cA ad ca0 σ0) sz)) (F0 mm 178 ls []) := by
    intro ca hj σ b l1 l2 l3 l4 H locs ls hb1 hb2 hf1 hf2 h hw hl
    refine lv_iload_n cx.1 cx.2.1 dX10_findPattern_178 rfl (lv_at hl 3 rfl) ?_
    refine lv_if_ne (tgt := 185) cx.1 cx.2.1 dX10_findPattern_179 (by decide) (fun c179 => ?_) (fun c179 => ?_)
    · have h := md_in c179 h
      exact J185 _ hj σ b l1 l2 l3 l4 _ _ _ (by omega) (by omega) (by omega) (by omega) h hw (lv_sub hl [0, 1, 2, 3, 4] rfl)
    · have h := md_ip c179 h
      refine lv_iconst (v := 0) cx.1 cx.2.1 dX10_findPattern_182 (by decide) ?_
      refine lv_istore (lv' := [(4, .int 0), (0, .ref (ad 10 0)), (1, .int l1), (2, .int l2), (3, .int l3)]) cx.1 cx.2.1 dX10_findPattern_183 hl (by decide) rfl (fun ls hl => ?_)
      exact J185 _ hj σ b l1 l2 l3 0 _ _ _ (by omega) (by omega) (by omega) (by omega) h hw (lv_sub hl [1, 2, 3, 4, 0] rfl)
  have J162 : ∀ (ca : Nat → Nat) (hj : cd_inj ad ca) (σ : cd_S) (b : cd_B) (l1 : Int32) (l2 : Int32) (l3 : Int32) (l4 : Int32) (t0 : Int64) (t1 : Int32) (H : Heap) (locs : List Loc) (ls : Array Slot), b.1 ≤ b0.1 → b.2 ≤ b0.2 → p.2.2.1 ≤ b.1 → p.2.2.2 ≤ b.2 → f_X10_findPattern_J162 n σ b l1 l2 l3 l4 t0 t1 = some p → hp_w D vwCl (hp_Tl cA) E (hp_A (cd_pic cA ad ca0 σ0) sz) ss H locs (cd_pic cA ad ca σ) → lv_has ls 6 [(0, .ref (ad 10 0)), (1, .int l1), (2, .int l2), (3, .int l3), (4, .int l4)] → W pp l ee ({ frames := 5, cells := b0.1 - p.2.2.1, slots := b0.2 - p.2.2.2, locals := 135 }) ss mm [.ref (ad 10 0)].toArray bb mt cd H locs (b0.1 - b.1) (b0.2 - b.2) (MQ bb (hp_Qv D vwCl (hp_Tl cA) sz (cd_pic cA ad ca0 σ0) (fun u => ∃ ca1, cd_inj ad ca1 ∧ u = cd_pic cA ad ca1 p.2.1)) [.ref (ad 10 0)].toArray ss (b0.1 - p.2.2.1) (b0.2 - p.2.2.2) (hp_A (cd_pic cA ad ca0 σ0) sz)) (F0 mm 162 ls [.long t0, .int t1, .ref (ad 6 1)]) := by
    intro ca hj σ b l1 l2 l3 l4 t0 t1 H locs ls hb1 hb2 hf1 hf2 h hw hl
    obtain ⟨p3, e_p3, h⟩ := md_ob h
    refine hp_callVv (As := [.int t1, .long t0]) (rest := []) cx hw (kc_X6_set l D cA E _ ad _ hj oq sgq sgv hE n σ 1 t1 t0 (by decide) p3 e_p3) (cwV 2 cx.2.2.2.2.2.1 (cd_giV cm_1065 cm_377 cm_378 cm_5 cm_379) rfl rfl rfl hdc_X6_set ⟨Nat.le_of_ble_eq_true rfl, Nat.le_of_ble_eq_true rfl⟩) (cd_atO hj (by decide) (by decide)) rfl rfl hl.1 rfl (Nat.le_of_ble_eq_true rfl) dX10_findPattern_162 ⟨by (try dsimp only); omega, by (try dsimp only); omega⟩ (fun u H locs hp hw => ?_)
    obtain ⟨ca, hj, rfl⟩ := hp
    refine lv_aload_n cx.1 cx.2.1 dX10_findPattern_165 rfl (lv_at hl 0 rfl) ?_
    refine lv_dup cx.1 cx.2.1 dX10_findPattern_166 rfl ?_
    refine cd_gI (o := 10) (k := 6) (f := 326) hj cx hw hic10 rfl ⟨by decide, rfl, by decide, rfl⟩ rfl (by decide) (List.mem_cons_of_mem _ cm_1047) dX10_findPattern_167 ?_
    refine lv_iconst (v := 2) cx.1 cx.2.1 dX10_findPattern_170 (by decide) ?_
    refine lv_iadd cx.1 cx.2.1 dX10_findPattern_171 ?_
    obtain ⟨σ4, e_σ4, h⟩ := md_ob h
    refine cd_pI (o := 10) (k := 6) (f := 326) hj cx hw hic10 rfl ⟨by decide, rfl, by decide, rfl⟩ tyX10_ok nmX10 rfl (by decide) rfl (List.mem_cons_of_mem _ cm_1047) rfl e_σ4 dX10_findPattern_172 (fun H locs hw => ?_)
    refine lv_goto (tgt := 185) cx.1 cx.2.1 dX10_findPattern_175 (by decide) ?_
    exact J185 _ hj σ4 b l1 l2 l3 l4 _ _ _ (by omega) (by omega) (by omega) (by omega) h hw (lv_sub hl [0, 1, 2, 3, 4] rfl)
  have J141 : ∀ (ca : Nat → Nat) (hj : cd_inj ad ca) (σ : cd_S) (b : cd_B) (l1 : Int32) (l2 : Int32) (l3 : Int32) (l4 : Int32) (l5 : Int32) (H : Heap) (locs : List Loc) (ls : Array Slot), b.1 ≤ b0.1 → b.2 ≤ b0.2 → p.2.2.1 ≤ b.1 → p.2.2.2 ≤ b.2 → f_X10_findPattern_J141 n σ b l1 l2 l3 l4 l5 = some p → hp_w D vwCl (hp_Tl cA) E (hp_A (cd_pic cA ad ca0 σ0) sz) ss H locs (cd_pic cA ad ca σ) → lv_has ls 6 [(0, .ref (ad 10 0)), (1, .int l1), (2, .int l2), (3, .int l3), (4, .int l4), (5, .int l5)] → W pp l ee ({ frames := 5, cells := b0.1 - p.2.2.1, slots := b0.2 - p.2.2.2, locals := 135 }) ss mm [.ref (ad 10 0)].toArray bb mt cd H locs (b0.1 - b.1) (b0.2 - b.2) (MQ bb (hp_Qv D vwCl (hp_Tl cA) sz (cd_pic cA ad ca0 σ0) (fun u => ∃ ca1, cd_inj ad ca1 ∧ u = cd_pic cA ad ca1 p.2.1)) [.ref (ad 10 0)].toArray ss (b0.1 - p.2.2.1) (b0.2 - p.2.2.2) (hp_A (cd_pic cA ad ca0 σ0) sz)) (F0 mm 141 ls []) := by
    intro ca hj σ b l1 l2 l3 l4 l5 H locs ls hb1 hb2 hf1 hf2 h hw hl
    refine lv_aload_n cx.1 cx.2.1 dX10_findPattern_141 rfl (lv_at hl 0 rfl) ?_
    refine cd_gO (o2 := 6) (e2 := 1) (o := 10) (k := 2) (f := 322) hj cx hw hic10 rfl ⟨by decide, rfl, by decide, rfl⟩ rfl (by decide) ⟨rfl, rfl⟩ (List.mem_cons_of_mem _ cm_675) dX10_findPattern_142 ?_
    refine lv_iload_n cx.1 cx.2.1 dX10_findPattern_145 rfl (lv_at hl 2 rfl) ?_
    refine lv_iconst (v := 1) cx.1 cx.2.1 dX10_findPattern_146 (by decide) ?_
    refine lv_iadd cx.1 cx.2.1 dX10_findPattern_147 ?_
    refine lv_iload cx.1 cx.2.1 dX10_findPattern_148 (lv_at hl 5 rfl) ?_
    refine lv_bipush (v := 42) cx.1 cx.2.1 dX10_findPattern_150 (by decide) ?_
    refine lv_icmp_ne (tgt := 159) cx.1 cx.2.1 dX10_findPattern_152 (by decide) (fun c152 => ?_) (fun c152 => ?_)
    · have h := md_in c152 h
      refine lv_ldc2 cx.1 cx.2.1 cx.2.2.2.2.1 (cx.2.2.2.2.2.1 _ (List.mem_cons_of_mem _ cm_1067)) dX10_findPattern_159 ?_
      exact J162 _ hj σ b l1 l2 l3 l4 2 ((l2 + 1)) _ _ _ (by omega) (by omega) (by omega) (by omega) h hw (lv_sub hl [0, 1, 2, 3, 4] rfl)
    · have h := md_ip c152 h
      refine lv_lconst (v := 1) cx.1 cx.2.1 dX10_findPattern_155 (by decide) ?_
      refine lv_goto (tgt := 162) cx.1 cx.2.1 dX10_findPattern_156 (by decide) ?_
      exact J162 _ hj σ b l1 l2 l3 l4 1 ((l2 + 1)) _ _ _ (by omega) (by omega) (by omega) (by omega) h hw (lv_sub hl [0, 1, 2, 3, 4] rfl)
  refine lv_aload_n cx.1 cx.2.1 dX10_findPattern_0 rfl (lv_at hl 0 rfl) ?_
  refine cd_gI (o := 10) (k := 6) (f := 326) hj cx hw hic10 rfl ⟨by decide, rfl, by decide, rfl⟩ rfl (by decide) (List.mem_cons_of_mem _ cm_1047) dX10_findPattern_1 ?_
  refine lv_istore_n (lv' := [(1, .int (cI σ0 326 0)), (0, .ref (ad 10 0))]) cx.1 cx.2.1 dX10_findPattern_4 rfl hl (by decide) rfl (fun ls hl => ?_)
  refine lv_aload_n cx.1 cx.2.1 dX10_findPattern_5 rfl (lv_at hl 1 rfl) ?_
  refine cd_gO (o2 := 6) (e2 := 1) (o := 10) (k := 2) (f := 322) hj cx hw hic10 rfl ⟨by decide, rfl, by decide, rfl⟩ rfl (by decide) ⟨rfl, rfl⟩ (List.mem_cons_of_mem _ cm_675) dX10_findPattern_6 ?_
  refine cd_gI (o := 6) (k := 1) (f := 193) hj cx hw hic6 rfl ⟨by decide, rfl, by decide, rfl⟩ rfl (by decide) (List.mem_cons_of_mem _ cm_1060) dX10_findPattern_9 ?_
  refine lv_istore_n (lv' := [(2, .int (cI σ0 193 1)), (1, .int (cI σ0 326 0)), (0, .ref (ad 10 0))]) cx.1 cx.2.1 dX10_findPattern_12 rfl hl (by decide) rfl (fun ls hl => ?_)
  refine lv_iconst (v := 0) cx.1 cx.2.1 dX10_findPattern_13 (by decide) ?_
  refine lv_istore_n (lv' := [(3, .int 0), (2, .int (cI σ0 193 1)), (1, .int (cI σ0 326 0)), (0, .ref (ad 10 0))]) cx.1 cx.2.1 dX10_findPattern_14 rfl hl (by decide) rfl (fun ls hl => ?_)
  refine lv_iconst (v := 1) cx.1 cx.2.1 dX10_findPattern_15 (by decide) ?_
  refine lv_istore (lv' := [(4, .int 1), (3, .int 0), (2, .int (cI σ0 193 1)), (1, .int (cI σ0 326 0)), (0, .ref (ad 10 0))]) cx.1 cx.2.1 dX10_findPattern_16 hl (by decide) rfl (fun ls hl => ?_)
  refine lv_aload_n cx.1 cx.2.1 dX10_findPattern_18 rfl (lv_at hl 4 rfl) ?_
  refine cd_gO (o2 := 6) (e2 := 1) (o := 10) (k := 2) (f := 322) hj cx hw hic10 rfl ⟨by decide, rfl, by decide, rfl⟩ rfl (by decide) ⟨rfl, rfl⟩ (List.mem_cons_of_mem _ cm_675) dX10_findPattern_19 ?_
  refine lv_lconst (v := 0) cx.1 cx.2.1 dX10_findPattern_22 (by decide) ?_
  obtain ⟨p5, e_p5, h⟩ := md_ob h
  obtain ⟨hm6, hn6, h⟩ := cd_cks h
  have hM6 : p.2.2.1 ≤ p5.2.2.1 ∧ p.2.2.2 ≤ p5.2.2.2 := ⟨hm6, hn6⟩
  have hle5 := (kc_X6_add l D cA E sz ad _ hj oq sgq sgv hE n σ0 b0 1 (0 : Int64) (by decide) p5 e_p5).1
  refine hp_callVv (As := [.long 0]) (rest := []) cx hw ((kc_X6_add l D cA E _ ad _ hj oq sgq sgv hE n σ0 b0 1 (0 : Int64) (by decide) p5 e_p5).2) (cwV 1 cx.2.2.2.2.2.1 (cd_giV cm_1034 cm_40 cm_41 cm_5 cm_42) rfl rfl rfl hdc_X6_add ⟨Nat.le_of_ble_eq_true rfl, Nat.le_of_ble_eq_true rfl⟩) (cd_atO hj (by decide) (by decide)) rfl rfl hl.1 rfl (Nat.le_of_ble_eq_true rfl) dX10_findPattern_23 ⟨by (try dsimp only); omega, by (try dsimp only); omega⟩ (fun u H locs hp hw => ?_)
  obtain ⟨ca, hj, rfl⟩ := hp
  refine W.widen (k := b0.1 - p5.2.2.1) (n := b0.2 - p5.2.2.2) (by omega) (by omega) ?_
  refine lv_aload_n cx.1 cx.2.1 dX10_findPattern_26 rfl (lv_at hl 4 rfl) ?_
  refine cd_gO (o2 := 6) (e2 := 1) (o := 10) (k := 2) (f := 322) hj cx hw hic10 rfl ⟨by decide, rfl, by decide, rfl⟩ rfl (by decide) ⟨rfl, rfl⟩ (List.mem_cons_of_mem _ cm_675) dX10_findPattern_27 ?_
  refine lv_lconst (v := 0) cx.1 cx.2.1 dX10_findPattern_30 (by decide) ?_
  obtain ⟨p7, e_p7, h⟩ := md_ob h
  obtain ⟨hm8, hn8, h⟩ := cd_cks h
  have hM8 : p.2.2.1 ≤ p7.2.2.1 ∧ p.2.2.2 ≤ p7.2.2.2 := ⟨hm8, hn8⟩
  have hle7 := (kc_X6_add l D cA E sz ad _ hj oq sgq sgv hE n p5.2.1 (p5.2.2) 1 (0 : Int64) (by decide) p7 e_p7).1
  refine hp_callVv (As := [.long 0]) (rest := []) cx hw ((kc_X6_add l D cA E _ ad _ hj oq sgq sgv hE n p5.2.1 (p5.2.2) 1 (0 : Int64) (by decide) p7 e_p7).2) (cwV 1 cx.2.2.2.2.2.1 (cd_giV cm_1034 cm_40 cm_41 cm_5 cm_42) rfl rfl rfl hdc_X6_add ⟨Nat.le_of_ble_eq_true rfl, Nat.le_of_ble_eq_true rfl⟩) (cd_atO hj (by decide) (by decide)) rfl rfl hl.1 rfl (Nat.le_of_ble_eq_true rfl) dX10_findPattern_31 ⟨by (try dsimp only); omega, by (try dsimp only); omega⟩ (fun u H locs hp hw => ?_)
  obtain ⟨ca, hj, rfl⟩ := hp
  refine W.widen (k := b0.1 - p7.2.2.1) (n := b0.2 - p7.2.2.2) (by omega) (by omega) ?_
  have L34 : ∀ (j : Nat) (ca : Nat → Nat) (hj : cd_inj ad ca) (σ : cd_S) (b : cd_B) (l1 : Int32) (l2 : Int32) (l3 : Int32) (l4 : Int32) (q : (cd_S × cd_B × Int32 × Int32)) (H : Heap) (locs : List Loc) (ls : Array Slot), b.1 ≤ b0.1 → b.2 ≤ b0.2 → p.2.2.1 ≤ b.1 → p.2.2.2 ≤ b.2 → p.2.2.1 ≤ q.2.1.1 → p.2.2.2 ≤ q.2.1.2 → f_X10_findPattern_L34 n l1 l2 j σ b l3 l4 = some q → hp_w D vwCl (hp_Tl cA) E (hp_A (cd_pic cA ad ca0 σ0) sz) ss H locs (cd_pic cA ad ca σ) → lv_has ls 6 [(0, .ref (ad 10 0)), (1, .int l1), (2, .int l2), (3, .int l3), (4, .int l4)] → (∀ (ca : Nat → Nat) (hj : cd_inj ad ca) (H : Heap) (locs : List Loc) (ls : Array Slot), q.2.1.1 ≤ b0.1 → q.2.1.2 ≤ b0.2 → hp_w D vwCl (hp_Tl cA) E (hp_A (cd_pic cA ad ca0 σ0) sz) ss H locs (cd_pic cA ad ca q.1) → lv_has ls 6 [(0, .ref (ad 10 0)), (1, .int l1), (2, .int l2), (3, .int q.2.2.1), (4, .int q.2.2.2)] → W pp l ee ({ frames := 5, cells := b0.1 - p.2.2.1, slots := b0.2 - p.2.2.2, locals := 135 }) ss mm [.ref (ad 10 0)].toArray bb mt cd H locs (b0.1 - q.2.1.1) (b0.2 - q.2.1.2) (MQ bb (hp_Qv D vwCl (hp_Tl cA) sz (cd_pic cA ad ca0 σ0) (fun u => ∃ ca1, cd_inj ad ca1 ∧ u = cd_pic cA ad ca1 p.2.1)) [.ref (ad 10 0)].toArray ss (b0.1 - p.2.2.1) (b0.2 - p.2.2.2) (hp_A (cd_pic cA ad ca0 σ0) sz)) (F0 mm 92 ls [])) → W pp l ee ({ frames := 5, cells := b0.1 - p.2.2.1, slots := b0.2 - p.2.2.2, locals := 135 }) ss mm [.ref (ad 10 0)].toArray bb mt cd H locs (b0.1 - b.1) (b0.2 - b.2) (MQ bb (hp_Qv D vwCl (hp_Tl cA) sz (cd_pic cA ad ca0 σ0) (fun u => ∃ ca1, cd_inj ad ca1 ∧ u = cd_pic cA ad ca1 p.2.1)) [.ref (ad 10 0)].toArray ss (b0.1 - p.2.2.1) (b0.2 - p.2.2.2) (hp_A (cd_pic cA ad ca0 σ0) sz)) (F0 mm 34 ls []) := by
    intro j
    induction j with
    | zero => intro ca hj σ b l1 l2 l3 l4 q H locs ls hb1 hb2 hf1 hf2 hq1 hq2 h; exact nomatch h
    | succ j ih =>
      intro ca hj σ b l1 l2 l3 l4 q H locs ls hb1 hb2 hf1 hf2 hq1 hq2 h hw hl K
      unfold f_X10_findPattern_L34 at h
      have J87 : ∀ (ca : Nat → Nat) (hj : cd_inj ad ca) (σ : cd_S) (b : cd_B) (l3 : Int32) (t0 : Int32) (H : Heap) (locs : List Loc) (ls : Array Slot), b.1 ≤ b0.1 → b.2 ≤ b0.2 → p.2.2.1 ≤ b.1 → p.2.2.2 ≤ b.2 → f_X10_findPattern_J87 n l1 l2 (f_X10_findPattern_L34 n l1 l2 j) σ b l3 t0 = some q → hp_w D vwCl (hp_Tl cA) E (hp_A (cd_pic cA ad ca0 σ0) sz) ss H locs (cd_pic cA ad ca σ) → lv_has ls 6 [(0, .ref (ad 10 0)), (1, .int l1), (2, .int l2), (3, .int l3)] → W pp l ee ({ frames := 5, cells := b0.1 - p.2.2.1, slots := b0.2 - p.2.2.2, locals := 135 }) ss mm [.ref (ad 10 0)].toArray bb mt cd H locs (b0.1 - b.1) (b0.2 - b.2) (MQ bb (hp_Qv D vwCl (hp_Tl cA) sz (cd_pic cA ad ca0 σ0) (fun u => ∃ ca1, cd_inj ad ca1 ∧ u = cd_pic cA ad ca1 p.2.1)) [.ref (ad 10 0)].toArray ss (b0.1 - p.2.2.1) (b0.2 - p.2.2.2) (hp_A (cd_pic cA ad ca0 σ0) sz)) (F0 mm 87 ls [.int t0]) := by
        intro ca hj σ b l3 t0 H locs ls hb1 hb2 hf1 hf2 h hw hl
        refine lv_istore (lv' := [(4, .int t0), (0, .ref (ad 10 0)), (1, .int l1), (2, .int l2), (3, .int l3)]) cx.1 cx.2.1 dX10_findPattern_87 hl (by decide) rfl (fun ls hl => ?_)
        refine lv_goto (tgt := 34) cx.1 cx.2.1 dX10_findPattern_89 (by decide) ?_
        exact ih _ hj σ b l1 l2 l3 t0 q _ _ _ (by omega) (by omega) (by omega) (by omega) hq1 hq2 h hw (lv_sub hl [1, 2, 3, 4, 0] rfl) K
      have J86 : ∀ (ca : Nat → Nat) (hj : cd_inj ad ca) (σ : cd_S) (b : cd_B) (l3 : Int32) (H : Heap) (locs : List Loc) (ls : Array Slot), b.1 ≤ b0.1 → b.2 ≤ b0.2 → p.2.2.1 ≤ b.1 → p.2.2.2 ≤ b.2 → f_X10_findPattern_J86 n l1 l2 (f_X10_findPattern_L34 n l1 l2 j) σ b l3 = some q → hp_w D vwCl (hp_Tl cA) E (hp_A (cd_pic cA ad ca0 σ0) sz) ss H locs (cd_pic cA ad ca σ) → lv_has ls 6 [(0, .ref (ad 10 0)), (1, .int l1), (2, .int l2), (3, .int l3)] → W pp l ee ({ frames := 5, cells := b0.1 - p.2.2.1, slots := b0.2 - p.2.2.2, locals := 135 }) ss mm [.ref (ad 10 0)].toArray bb mt cd H locs (b0.1 - b.1) (b0.2 - b.2) (MQ bb (hp_Qv D vwCl (hp_Tl cA) sz (cd_pic cA ad ca0 σ0) (fun u => ∃ ca1, cd_inj ad ca1 ∧ u = cd_pic cA ad ca1 p.2.1)) [.ref (ad 10 0)].toArray ss (b0.1 - p.2.2.1) (b0.2 - p.2.2.2) (hp_A (cd_pic cA ad ca0 σ0) sz)) (F0 mm 86 ls []) := by
        intro ca hj σ b l3 H locs ls hb1 hb2 hf1 hf2 h hw hl
        refine lv_iconst (v := 0) cx.1 cx.2.1 dX10_findPattern_86 (by decide) ?_
        exact J87 _ hj σ b l3 0 _ _ _ (by omega) (by omega) (by omega) (by omega) h hw (lv_sub hl [0, 1, 2, 3] rfl)
      refine lv_iload_n cx.1 cx.2.1 dX10_findPattern_34 rfl (lv_at hl 3 rfl) ?_
      refine lv_sipush (v := 3000) cx.1 cx.2.1 dX10_findPattern_35 (by decide) ?_
      refine lv_icmp_ge (tgt := 92) cx.1 cx.2.1 dX10_findPattern_38 (by decide) (fun c38 => ?_) (fun c38 => ?_)
      · have h := md_ip c38 h
        obtain rfl := Option.some.inj h
        exact K _ hj _ _ _ (by (try dsimp only); omega) (by (try dsimp only); omega) hw (lv_sub hl [0, 1, 2, 3, 4] rfl)
      · have h := md_in c38 h
        refine lv_aload_n cx.1 cx.2.1 dX10_findPattern_41 rfl (lv_at hl 0 rfl) ?_
        refine lv_aload_n cx.1 cx.2.1 dX10_findPattern_42 rfl (lv_at hl 0 rfl) ?_
        refine cd_gI (o := 10) (k := 6) (f := 326) hj cx hw hic10 rfl ⟨by decide, rfl, by decide, rfl⟩ rfl (by decide) (List.mem_cons_of_mem _ cm_1047) dX10_findPattern_43 ?_
        obtain ⟨p9, e_p9, h⟩ := md_ob h
        refine hp_callVi (As := [.int (cI σ 326 0)]) (rest := []) cx hw (kc_X10_byteAt l D cA E _ ad _ hj oq sgq sgv hE n σ ((cI σ 326 0)) p9 e_p9) (cwV 1 cx.2.2.2.2.2.1 (cd_giV cm_1037 cm_1038 cm_1039 cm_301 cm_1040) rfl rfl rfl hdc_X10_byteAt ⟨Nat.le_of_ble_eq_true rfl, Nat.le_of_ble_eq_true rfl⟩) (cd_atO hj (by decide) (by decide)) rfl rfl hl.1 rfl (Nat.le_of_ble_eq_true rfl) dX10_findPattern_46 ⟨by (try dsimp only); omega, by (try dsimp only); omega⟩ (fun r u H locs hp hw => ?_)
        obtain ⟨rfl, ca, hj, rfl⟩ := hp
        refine lv_bipush (v := 47) cx.1 cx.2.1 dX10_findPattern_49 (by decide) ?_
        refine lv_icmp_ne (tgt := 92) cx.1 cx.2.1 dX10_findPattern_51 (by decide) (fun c51 => ?_) (fun c51 => ?_)
        · have h := md_in c51 h
          obtain rfl := Option.some.inj h
          exact K _ hj _ _ _ (by (try dsimp only); omega) (by (try dsimp only); omega) hw (lv_sub hl [0, 1, 2, 3, 4] rfl)
        · have h := md_ip c51 h
          refine lv_aload_n cx.1 cx.2.1 dX10_findPattern_54 rfl (lv_at hl 0 rfl) ?_
          refine lv_aload_n cx.1 cx.2.1 dX10_findPattern_55 rfl (lv_at hl 0 rfl) ?_
          refine cd_gI (o := 10) (k := 6) (f := 326) hj cx hw hic10 rfl ⟨by decide, rfl, by decide, rfl⟩ rfl (by decide) (List.mem_cons_of_mem _ cm_1047) dX10_findPattern_56 ?_
          refine lv_iconst (v := 1) cx.1 cx.2.1 dX10_findPattern_59 (by decide) ?_
          refine lv_iadd cx.1 cx.2.1 dX10_findPattern_60 ?_
          obtain ⟨p10, e_p10, h⟩ := md_ob h
          refine hp_callVi (As := [.int ((cI p9.2 326 0) + 1)]) (rest := []) cx hw (kc_X10_stepCharAt l D cA E _ ad _ hj oq sgq sgv hE n p9.2 (((cI p9.2 326 0) + 1)) p10 e_p10) (cwV 1 cx.2.2.2.2.2.1 (cd_giV cm_1048 cm_1049 cm_1050 cm_301 cm_1051) rfl rfl rfl hdc_X10_stepCharAt ⟨Nat.le_of_ble_eq_true rfl, Nat.le_of_ble_eq_true rfl⟩) (cd_atO hj (by decide) (by decide)) rfl rfl hl.1 rfl (Nat.le_of_ble_eq_true rfl) dX10_findPattern_61 ⟨by (try dsimp only); omega, by (try dsimp only); omega⟩ (fun r u H locs hp hw => ?_)
          obtain ⟨rfl, ca, hj, rfl⟩ := hp
          refine lv_if_eq (tgt := 92) cx.1 cx.2.1 dX10_findPattern_64 (by decide) (fun c64 => ?_) (fun c64 => ?_)
          · have h := md_ip c64 h
            obtain rfl := Option.some.inj h
            exact K _ hj _ _ _ (by (try dsimp only); omega) (by (try dsimp only); omega) hw (lv_sub hl [0, 1, 2, 3, 4] rfl)
          · have h := md_in c64 h
            refine lv_iinc (v := (l3 + 1)) (lv' := [(3, .int (l3 + 1)), (0, .ref (ad 10 0)), (1, .int l1), (2, .int l2), (4, .int l4)]) cx.1 cx.2.1 dX10_findPattern_67 hl (k := 3) rfl rfl (by decide) rfl (fun ls hl => ?_)
            refine lv_aload_n cx.1 cx.2.1 dX10_findPattern_70 rfl (lv_at hl 1 rfl) ?_
            obtain ⟨p11, e_p11, h⟩ := md_ob h
            obtain ⟨hm12, hn12, h⟩ := cd_cks h
            have hM12 : p.2.2.1 ≤ p11.2.2.1 ∧ p.2.2.2 ≤ p11.2.2.2 := ⟨Nat.le_trans hq1 hm12, Nat.le_trans hq2 hn12⟩
            have hle11 := (kc_X10_findStep l D cA E sz ad _ hj oq sgq sgv hE n p10.2 b  p11 e_p11).1
            refine hp_callVi (As := []) (rest := []) cx hw ((kc_X10_findStep l D cA E _ ad _ hj oq sgq sgv hE n p10.2 b  p11 e_p11).2) (cwV 0 cx.2.2.2.2.2.1 (cd_giV cm_1061 cm_1062 cm_1063 cm_301 cm_1064) rfl rfl rfl hdc_X10_findStep ⟨Nat.le_of_ble_eq_true rfl, Nat.le_of_ble_eq_true rfl⟩) (cd_atO hj (by decide) (by decide)) rfl rfl hl.1 rfl (Nat.le_of_ble_eq_true rfl) dX10_findPattern_71 ⟨by (try dsimp only); omega, by (try dsimp only); omega⟩ (fun r u H locs hp hw => ?_)
            obtain ⟨rfl, ca, hj, rfl⟩ := hp
            refine W.widen (k := b0.1 - p11.2.2.1) (n := b0.2 - p11.2.2.2) (by omega) (by omega) ?_
            refine lv_if_eq (tgt := 86) cx.1 cx.2.1 dX10_findPattern_74 (by decide) (fun c74 => ?_) (fun c74 => ?_)
            · have h := md_ip c74 h
              exact J86 _ hj p11.2.1 (p11.2.2) ((l3 + 1)) _ _ _ (by omega) (by omega) (by omega) (by omega) h hw (lv_sub hl [1, 2, 3, 0] rfl)
            · have h := md_in c74 h
              refine lv_iload cx.1 cx.2.1 dX10_findPattern_77 (lv_at hl 4 rfl) ?_
              refine lv_if_eq (tgt := 86) cx.1 cx.2.1 dX10_findPattern_79 (by decide) (fun c79 => ?_) (fun c79 => ?_)
              · have h := md_ip c79 h
                exact J86 _ hj p11.2.1 (p11.2.2) ((l3 + 1)) _ _ _ (by omega) (by omega) (by omega) (by omega) h hw (lv_sub hl [1, 2, 3, 0] rfl)
              · have h := md_in c79 h
                refine lv_iconst (v := 1) cx.1 cx.2.1 dX10_findPattern_82 (by decide) ?_
                refine lv_goto (tgt := 87) cx.1 cx.2.1 dX10_findPattern_83 (by decide) ?_
                exact J87 _ hj p11.2.1 (p11.2.2) ((l3 + 1)) 1 _ _ _ (by omega) (by omega) (by omega) (by omega) h hw (lv_sub hl [1, 2, 3, 0] rfl)
  obtain ⟨q13, e_q13, h⟩ := md_ob h
  obtain ⟨hm14, hn14, h⟩ := cd_cks h
  have hM14 : p.2.2.1 ≤ q13.2.1.1 ∧ p.2.2.2 ≤ q13.2.1.2 := ⟨hm14, hn14⟩
  refine L34 n _ hj p7.2.1 (p7.2.2) ((cI σ0 326 0)) ((cI σ0 193 1)) 0 1 q13 _ _ _ (by omega) (by omega) (by omega) (by omega) hM14.1 hM14.2 e_q13 hw (lv_sub hl [4, 3, 2, 1, 0] rfl) (fun ca hj H locs ls hb1 hb2 hw hl => ?_)
  refine lv_aload_n cx.1 cx.2.1 dX10_findPattern_92 rfl (lv_at hl 0 rfl) ?_
  refine cd_gO (o2 := 6) (e2 := 1) (o := 10) (k := 2) (f := 322) hj cx hw hic10 rfl ⟨by decide, rfl, by decide, rfl⟩ rfl (by decide) ⟨rfl, rfl⟩ (List.mem_cons_of_mem _ cm_675) dX10_findPattern_93 ?_
  refine lv_iload_n cx.1 cx.2.1 dX10_findPattern_96 rfl (lv_at hl 2 rfl) ?_
  refine lv_iload_n cx.1 cx.2.1 dX10_findPattern_97 rfl (lv_at hl 3 rfl) ?_
  refine lv_i2l (v := (q13.2.2.1.toInt64)) cx.1 cx.2.1 dX10_findPattern_98 rfl ?_
  obtain ⟨p15, e_p15, h⟩ := md_ob h
  refine hp_callVv (As := [.int (cI σ0 193 1), .long (q13.2.2.1.toInt64)]) (rest := []) cx hw (kc_X6_set l D cA E _ ad _ hj oq sgq sgv hE n q13.1 1 ((cI σ0 193 1)) ((q13.2.2.1.toInt64)) (by decide) p15 e_p15) (cwV 2 cx.2.2.2.2.2.1 (cd_giV cm_1065 cm_377 cm_378 cm_5 cm_379) rfl rfl rfl hdc_X6_set ⟨Nat.le_of_ble_eq_true rfl, Nat.le_of_ble_eq_true rfl⟩) (cd_atO hj (by decide) (by decide)) rfl rfl hl.1 rfl (Nat.le_of_ble_eq_true rfl) dX10_findPattern_99 ⟨by (try dsimp only); omega, by (try dsimp only); omega⟩ (fun u H locs hp hw => ?_)
  obtain ⟨ca, hj, rfl⟩ := hp
  refine lv_aload_n cx.1 cx.2.1 dX10_findPattern_102 rfl (lv_at hl 0 rfl) ?_
  refine lv_aload_n cx.1 cx.2.1 dX10_findPattern_103 rfl (lv_at hl 0 rfl) ?_
  refine cd_gI (o := 10) (k := 6) (f := 326) hj cx hw hic10 rfl ⟨by decide, rfl, by decide, rfl⟩ rfl (by decide) (List.mem_cons_of_mem _ cm_1047) dX10_findPattern_104 ?_
  refine lv_iconst (v := 1) cx.1 cx.2.1 dX10_findPattern_107 (by decide) ?_
  refine lv_iadd cx.1 cx.2.1 dX10_findPattern_108 ?_
  obtain ⟨p16, e_p16, h⟩ := md_ob h
  refine hp_callVi (As := [.int ((cI p15.2 326 0) + 1)]) (rest := []) cx hw (kc_X10_byteAt l D cA E _ ad _ hj oq sgq sgv hE n p15.2 (((cI p15.2 326 0) + 1)) p16 e_p16) (cwV 1 cx.2.2.2.2.2.1 (cd_giV cm_1037 cm_1038 cm_1039 cm_301 cm_1040) rfl rfl rfl hdc_X10_byteAt ⟨Nat.le_of_ble_eq_true rfl, Nat.le_of_ble_eq_true rfl⟩) (cd_atO hj (by decide) (by decide)) rfl rfl hl.1 rfl (Nat.le_of_ble_eq_true rfl) dX10_findPattern_109 ⟨by (try dsimp only); omega, by (try dsimp only); omega⟩ (fun r u H locs hp hw => ?_)
  obtain ⟨rfl, ca, hj, rfl⟩ := hp
  refine lv_istore (lv' := [(5, .int p16.1), (0, .ref (ad 10 0)), (1, .int (cI σ0 326 0)), (2, .int (cI σ0 193 1)), (3, .int q13.2.2.1), (4, .int q13.2.2.2)]) cx.1 cx.2.1 dX10_findPattern_112 hl (by decide) rfl (fun ls hl => ?_)
  refine lv_aload_n cx.1 cx.2.1 dX10_findPattern_114 rfl (lv_at hl 1 rfl) ?_
  refine lv_aload_n cx.1 cx.2.1 dX10_findPattern_115 rfl (lv_at hl 1 rfl) ?_
  refine cd_gI (o := 10) (k := 6) (f := 326) hj cx hw hic10 rfl ⟨by decide, rfl, by decide, rfl⟩ rfl (by decide) (List.mem_cons_of_mem _ cm_1047) dX10_findPattern_116 ?_
  obtain ⟨p17, e_p17, h⟩ := md_ob h
  refine hp_callVi (As := [.int (cI p16.2 326 0)]) (rest := []) cx hw (kc_X10_byteAt l D cA E _ ad _ hj oq sgq sgv hE n p16.2 ((cI p16.2 326 0)) p17 e_p17) (cwV 1 cx.2.2.2.2.2.1 (cd_giV cm_1037 cm_1038 cm_1039 cm_301 cm_1040) rfl rfl rfl hdc_X10_byteAt ⟨Nat.le_of_ble_eq_true rfl, Nat.le_of_ble_eq_true rfl⟩) (cd_atO hj (by decide) (by decide)) rfl rfl hl.1 rfl (Nat.le_of_ble_eq_true rfl) dX10_findPattern_119 ⟨by (try dsimp only); omega, by (try dsimp only); omega⟩ (fun r u H locs hp hw => ?_)
  obtain ⟨rfl, ca, hj, rfl⟩ := hp
  refine lv_bipush (v := 47) cx.1 cx.2.1 dX10_findPattern_122 (by decide) ?_
  refine lv_icmp_ne (tgt := 178) cx.1 cx.2.1 dX10_findPattern_124 (by decide) (fun c124 => ?_) (fun c124 => ?_)
  · have h := md_in c124 h
    exact J178 _ hj p17.2 (q13.2.1) ((cI σ0 326 0)) ((cI σ0 193 1)) (q13.2.2.1) (q13.2.2.2) _ _ _ (by omega) (by omega) (by omega) (by omega) h hw (lv_sub hl [1, 2, 3, 4, 5] rfl)
  · have h := md_ip c124 h
    refine lv_iload cx.1 cx.2.1 dX10_findPattern_127 (lv_at hl 0 rfl) ?_
    refine lv_bipush (v := 42) cx.1 cx.2.1 dX10_findPattern_129 (by decide) ?_
    refine lv_icmp_eq (tgt := 141) cx.1 cx.2.1 dX10_findPattern_131 (by decide) (fun c131 => ?_) (fun c131 => ?_)
    · have h := md_ip c131 h
      exact J141 _ hj p17.2 (q13.2.1) ((cI σ0 326 0)) ((cI σ0 193 1)) (q13.2.2.1) (q13.2.2.2) (p16.1) _ _ _ (by omega) (by omega) (by omega) (by omega) h hw (lv_sub hl [1, 2, 3, 4, 5, 0] rfl)
    · have h := md_in c131 h
      refine lv_iload cx.1 cx.2.1 dX10_findPattern_134 (lv_at hl 0 rfl) ?_
      refine lv_bipush (v := 45) cx.1 cx.2.1 dX10_findPattern_136 (by decide) ?_
      refine lv_icmp_ne (tgt := 178) cx.1 cx.2.1 dX10_findPattern_138 (by decide) (fun c138 => ?_) (fun c138 => ?_)
      · have h := md_in c138 h
        exact J178 _ hj p17.2 (q13.2.1) ((cI σ0 326 0)) ((cI σ0 193 1)) (q13.2.2.1) (q13.2.2.2) _ _ _ (by omega) (by omega) (by omega) (by omega) h hw (lv_sub hl [1, 2, 3, 4, 5] rfl)
      · have h := md_ip c138 h
        exact J141 _ hj p17.2 (q13.2.1) ((cI σ0 326 0)) ((cI σ0 193 1)) (q13.2.2.1) (q13.2.2.2) (p16.1) _ _ _ (by omega) (by omega) (by omega) (by omega) h hw (lv_sub hl [1, 2, 3, 4, 5, 0] rfl)
set_option maxHeartbeats 4000000 in
set_option maxRecDepth 100000 in
theorem kc_X10_findSign (l : Launch) (D : va_G) (cA : Nat → ClassId) (E : hp_N) (sz : Nat) (ad : Nat → Nat → Nat) (ca0 : Nat → Nat) (hj : cd_inj ad ca0) (oq sgq sgv : Nat) (hE : cd_E E oq sgq sgv) (n : Nat) (σ0 : cd_S) (b0 : cd_B) (a1 : Int32) (p : (Int32 × cd_S × cd_B)) (h : f_X10_findSign n σ0 b0 a1 = some p) : (p.2.2.1 ≤ b0.1 ∧ p.2.2.2 ≤ b0.2) ∧ Met l yX10_findSign (Cond.code yX10_findSign cX10_findSign 4 none :: v_CLS) ({ frames := 5, cells := b0.1 - p.2.2.1, slots := b0.2 - p.2.2.2, locals := 179 }) (hp_Pc D vwCl (hp_Tl cA) E sz (cd_pic cA ad ca0 σ0) [.ref (ad 10 0), .int a1]) (hp_Qv D vwCl (hp_Tl cA) sz (cd_pic cA ad ca0 σ0) (fun u => ∃ ca1, cd_inj ad ca1 ∧ u = cd_pic cA ad ca1 p.2.1)) (b0.1 - p.2.2.1) (b0.2 - p.2.2.2) (hp_A (cd_pic cA ad ca0 σ0) sz) := by
  obtain ⟨hm0, hn0, h⟩ := cd_cks h
  have hM0 : p.2.2.1 ≤ b0.1 ∧ p.2.2.2 ≤ b0.2 := ⟨hm0, hn0⟩
  refine ⟨hM0, ?_⟩
  refine hp_ofW (cc := cX10_findSign) (maxL := 4) (ret := none) (by decide) rfl (Nat.le_of_ble_eq_true rfl) ?_
  intro pp ee ss mm bb mt cd ls cx hsz hw hl
  have hl : lv_has ls 4 [(0, .ref (ad 10 0)), (1, .int a1)] := hl
  refine W.widen (k := b0.1 - b0.1) (n := b0.2 - b0.2) (Nat.zero_le _) (Nat.zero_le _) ?_
  have J88 : ∀ (ca : Nat → Nat) (hj : cd_inj ad ca) (σ : cd_S) (b : cd_B) (l2 : Int32) (l3 : Int32) (H : Heap) (locs : List Loc) (ls : Array Slot), b.1 ≤ b0.1 → b.2 ≤ b0.2 → p.2.2.1 ≤ b.1 → p.2.2.2 ≤ b.2 → f_X10_findSign_J88 n σ b l2 l3 = some p → hp_w D vwCl (hp_Tl cA) E (hp_A (cd_pic cA ad ca0 σ0) sz) ss H locs (cd_pic cA ad ca σ) → lv_has ls 4 [(0, .ref (ad 10 0)), (2, .int l2), (3, .int l3)] → W pp l ee ({ frames := 5, cells := b0.1 - p.2.2.1, slots := b0.2 - p.2.2.2, locals := 179 }) ss mm [.ref (ad 10 0), .int a1].toArray bb mt cd H locs (b0.1 - b.1) (b0.2 - b.2) (MQ bb (hp_Qv D vwCl (hp_Tl cA) sz (cd_pic cA ad ca0 σ0) (fun u => ∃ ca1, cd_inj ad ca1 ∧ u = cd_pic cA ad ca1 p.2.1)) [.ref (ad 10 0), .int a1].toArray ss (b0.1 - p.2.2.1) (b0.2 - p.2.2.2) (hp_A (cd_pic cA ad ca0 σ0) sz)) (F0 mm 88 ls []) := by
    intro ca hj σ b l2 l3 H locs ls hb1 hb2 hf1 hf2 h hw hl
    refine lv_aload_n cx.1 cx.2.1 dX10_findSign_88 rfl (lv_at hl 0 rfl) ?_
    refine lv_iload_n cx.1 cx.2.1 dX10_findSign_89 rfl (lv_at hl 2 rfl) ?_
    refine lv_iload_n cx.1 cx.2.1 dX10_findSign_90 rfl (lv_at hl 1 rfl) ?_
    refine lv_lconst (v := 0) cx.1 cx.2.1 dX10_findSign_91 (by decide) ?_
    obtain ⟨p1, e_p1, h⟩ := md_ob h
    obtain ⟨hm2, hn2, h⟩ := cd_cks h
    have hM2 : p.2.2.1 ≤ p1.2.2.1 ∧ p.2.2.2 ≤ p1.2.2.2 := ⟨hm2, hn2⟩
    have hle1 := (kc_X10_addWord l D cA E sz ad _ hj oq sgq sgv hE n σ b l3 l2 (0 : Int64) p1 e_p1).1
    refine hp_callVv (As := [.int l3, .int l2, .long 0]) (rest := []) cx hw ((kc_X10_addWord l D cA E _ ad _ hj oq sgq sgv hE n σ b l3 l2 (0 : Int64) p1 e_p1).2) (cwV 3 cx.2.2.2.2.2.1 (cd_giV cm_1054 cm_1055 cm_1056 cm_301 cm_1057) rfl rfl rfl hdc_X10_addWord ⟨Nat.le_of_ble_eq_true rfl, Nat.le_of_ble_eq_true rfl⟩) (cd_atO hj (by decide) (by decide)) rfl rfl hl.1 rfl (Nat.le_of_ble_eq_true rfl) dX10_findSign_92 ⟨by (try dsimp only); omega, by (try dsimp only); omega⟩ (fun u H locs hp hw => ?_)
    obtain ⟨ca, hj, rfl⟩ := hp
    refine W.widen (k := b0.1 - p1.2.2.1) (n := b0.2 - p1.2.2.2) (by omega) (by omega) ?_
    exact hp_vret cx hw ((cd_retb hj h).2) dX10_findSign_95 (cd_le1 h) (cd_le2 h)
  have J77 : ∀ (ca : Nat → Nat) (hj : cd_inj ad ca) (σ : cd_S) (b : cd_B) (l2 : Int32) (t0 : Int32) (H : Heap) (locs : List Loc) (ls : Array Slot), b.1 ≤ b0.1 → b.2 ≤ b0.2 → p.2.2.1 ≤ b.1 → p.2.2.2 ≤ b.2 → f_X10_findSign_J77 n σ b l2 t0 = some p → hp_w D vwCl (hp_Tl cA) E (hp_A (cd_pic cA ad ca0 σ0) sz) ss H locs (cd_pic cA ad ca σ) → lv_has ls 4 [(0, .ref (ad 10 0)), (2, .int l2)] → W pp l ee ({ frames := 5, cells := b0.1 - p.2.2.1, slots := b0.2 - p.2.2.2, locals := 179 }) ss mm [.ref (ad 10 0), .int a1].toArray bb mt cd H locs (b0.1 - b.1) (b0.2 - b.2) (MQ bb (hp_Qv D vwCl (hp_Tl cA) sz (cd_pic cA ad ca0 σ0) (fun u => ∃ ca1, cd_inj ad ca1 ∧ u = cd_pic cA ad ca1 p.2.1)) [.ref (ad 10 0), .int a1].toArray ss (b0.1 - p.2.2.1) (b0.2 - p.2.2.2) (hp_A (cd_pic cA ad ca0 σ0) sz)) (F0 mm 77 ls [.int t0]) := by
    intro ca hj σ b l2 t0 H locs ls hb1 hb2 hf1 hf2 h hw hl
    refine lv_istore_n (lv' := [(3, .int t0), (0, .ref (ad 10 0)), (2, .int l2)]) cx.1 cx.2.1 dX10_findSign_77 rfl hl (by decide) rfl (fun ls hl => ?_)
    refine lv_aload_n cx.1 cx.2.1 dX10_findSign_78 rfl (lv_at hl 1 rfl) ?_
    refine lv_dup cx.1 cx.2.1 dX10_findSign_79 rfl ?_
    refine cd_gI (o := 10) (k := 6) (f := 326) hj cx hw hic10 rfl ⟨by decide, rfl, by decide, rfl⟩ rfl (by decide) (List.mem_cons_of_mem _ cm_1047) dX10_findSign_80 ?_
    refine lv_iconst (v := 1) cx.1 cx.2.1 dX10_findSign_83 (by decide) ?_
    refine lv_iadd cx.1 cx.2.1 dX10_findSign_84 ?_
    obtain ⟨σ3, e_σ3, h⟩ := md_ob h
    refine cd_pI (o := 10) (k := 6) (f := 326) hj cx hw hic10 rfl ⟨by decide, rfl, by decide, rfl⟩ tyX10_ok nmX10 rfl (by decide) rfl (List.mem_cons_of_mem _ cm_1047) rfl e_σ3 dX10_findSign_85 (fun H locs hw => ?_)
    exact J88 _ hj σ3 b l2 t0 _ _ _ (by omega) (by omega) (by omega) (by omega) h hw (lv_sub hl [1, 2, 0] rfl)
  have J62 : ∀ (ca : Nat → Nat) (hj : cd_inj ad ca) (σ : cd_S) (b : cd_B) (l1 : Int32) (l2 : Int32) (H : Heap) (locs : List Loc) (ls : Array Slot), b.1 ≤ b0.1 → b.2 ≤ b0.2 → p.2.2.1 ≤ b.1 → p.2.2.2 ≤ b.2 → f_X10_findSign_J62 n σ b l1 l2 = some p → hp_w D vwCl (hp_Tl cA) E (hp_A (cd_pic cA ad ca0 σ0) sz) ss H locs (cd_pic cA ad ca σ) → lv_has ls 4 [(0, .ref (ad 10 0)), (1, .int l1), (2, .int l2)] → W pp l ee ({ frames := 5, cells := b0.1 - p.2.2.1, slots := b0.2 - p.2.2.2, locals := 179 }) ss mm [.ref (ad 10 0), .int a1].toArray bb mt cd H locs (b0.1 - b.1) (b0.2 - b.2) (MQ bb (hp_Qv D vwCl (hp_Tl cA) sz (cd_pic cA ad ca0 σ0) (fun u => ∃ ca1, cd_inj ad ca1 ∧ u = cd_pic cA ad ca1 p.2.1)) [.ref (ad 10 0), .int a1].toArray ss (b0.1 - p.2.2.1) (b0.2 - p.2.2.2) (hp_A (cd_pic cA ad ca0 σ0) sz)) (F0 mm 62 ls []) := by
    intro ca hj σ b l1 l2 H locs ls hb1 hb2 hf1 hf2 h hw hl
    refine lv_iload_n cx.1 cx.2.1 dX10_findSign_62 rfl (lv_at hl 1 rfl) ?_
    refine lv_bipush (v := 58) cx.1 cx.2.1 dX10_findSign_63 (by decide) ?_
    refine lv_icmp_ne (tgt := 74) cx.1 cx.2.1 dX10_findSign_65 (by decide) (fun c65 => ?_) (fun c65 => ?_)
    · have h := md_in c65 h
      refine lv_sipush (v := 201) cx.1 cx.2.1 dX10_findSign_74 (by decide) ?_
      exact J77 _ hj σ b l2 201 _ _ _ (by omega) (by omega) (by omega) (by omega) h hw (lv_sub hl [0, 2] rfl)
    · have h := md_ip c65 h
      refine lv_sipush (v := 200) cx.1 cx.2.1 dX10_findSign_68 (by decide) ?_
      refine lv_goto (tgt := 77) cx.1 cx.2.1 dX10_findSign_71 (by decide) ?_
      exact J77 _ hj σ b l2 200 _ _ _ (by omega) (by omega) (by omega) (by omega) h hw (lv_sub hl [0, 2] rfl)
  have J26 : ∀ (ca : Nat → Nat) (hj : cd_inj ad ca) (σ : cd_S) (b : cd_B) (l1 : Int32) (l2 : Int32) (t0 : Int32) (H : Heap) (locs : List Loc) (ls : Array Slot), b.1 ≤ b0.1 → b.2 ≤ b0.2 → p.2.2.1 ≤ b.1 → p.2.2.2 ≤ b.2 → f_X10_findSign_J26 n σ b l1 l2 t0 = some p → hp_w D vwCl (hp_Tl cA) E (hp_A (cd_pic cA ad ca0 σ0) sz) ss H locs (cd_pic cA ad ca σ) → lv_has ls 4 [(0, .ref (ad 10 0)), (1, .int l1), (2, .int l2)] → W pp l ee ({ frames := 5, cells := b0.1 - p.2.2.1, slots := b0.2 - p.2.2.2, locals := 179 }) ss mm [.ref (ad 10 0), .int a1].toArray bb mt cd H locs (b0.1 - b.1) (b0.2 - b.2) (MQ bb (hp_Qv D vwCl (hp_Tl cA) sz (cd_pic cA ad ca0 σ0) (fun u => ∃ ca1, cd_inj ad ca1 ∧ u = cd_pic cA ad ca1 p.2.1)) [.ref (ad 10 0), .int a1].toArray ss (b0.1 - p.2.2.1) (b0.2 - p.2.2.2) (hp_A (cd_pic cA ad ca0 σ0) sz)) (F0 mm 26 ls [.int t0]) := by
    intro ca hj σ b l1 l2 t0 H locs ls hb1 hb2 hf1 hf2 h hw hl
    refine lv_istore_n (lv' := [(3, .int t0), (0, .ref (ad 10 0)), (1, .int l1), (2, .int l2)]) cx.1 cx.2.1 dX10_findSign_26 rfl hl (by decide) rfl (fun ls hl => ?_)
    refine lv_aload_n cx.1 cx.2.1 dX10_findSign_27 rfl (lv_at hl 1 rfl) ?_
    refine lv_dup cx.1 cx.2.1 dX10_findSign_28 rfl ?_
    refine cd_gI (o := 10) (k := 6) (f := 326) hj cx hw hic10 rfl ⟨by decide, rfl, by decide, rfl⟩ rfl (by decide) (List.mem_cons_of_mem _ cm_1047) dX10_findSign_29 ?_
    refine lv_iconst (v := 1) cx.1 cx.2.1 dX10_findSign_32 (by decide) ?_
    refine lv_iadd cx.1 cx.2.1 dX10_findSign_33 ?_
    obtain ⟨σ4, e_σ4, h⟩ := md_ob h
    refine cd_pI (o := 10) (k := 6) (f := 326) hj cx hw hic10 rfl ⟨by decide, rfl, by decide, rfl⟩ tyX10_ok nmX10 rfl (by decide) rfl (List.mem_cons_of_mem _ cm_1047) rfl e_σ4 dX10_findSign_34 (fun H locs hw => ?_)
    refine lv_aload_n cx.1 cx.2.1 dX10_findSign_37 rfl (lv_at hl 1 rfl) ?_
    refine lv_aload_n cx.1 cx.2.1 dX10_findSign_38 rfl (lv_at hl 1 rfl) ?_
    refine cd_gI (o := 10) (k := 6) (f := 326) hj cx hw hic10 rfl ⟨by decide, rfl, by decide, rfl⟩ rfl (by decide) (List.mem_cons_of_mem _ cm_1047) dX10_findSign_39 ?_
    obtain ⟨p5, e_p5, h⟩ := md_ob h
    refine hp_callVi (As := [.int (cI σ4 326 0)]) (rest := []) cx hw (kc_X10_byteAt l D cA E _ ad _ hj oq sgq sgv hE n σ4 ((cI σ4 326 0)) p5 e_p5) (cwV 1 cx.2.2.2.2.2.1 (cd_giV cm_1037 cm_1038 cm_1039 cm_301 cm_1040) rfl rfl rfl hdc_X10_byteAt ⟨Nat.le_of_ble_eq_true rfl, Nat.le_of_ble_eq_true rfl⟩) (cd_atO hj (by decide) (by decide)) rfl rfl hl.1 rfl (Nat.le_of_ble_eq_true rfl) dX10_findSign_42 ⟨by (try dsimp only); omega, by (try dsimp only); omega⟩ (fun r u H locs hp hw => ?_)
    obtain ⟨rfl, ca, hj, rfl⟩ := hp
    refine lv_bipush (v := 61) cx.1 cx.2.1 dX10_findSign_45 (by decide) ?_
    refine lv_icmp_ne (tgt := 88) cx.1 cx.2.1 dX10_findSign_47 (by decide) (fun c47 => ?_) (fun c47 => ?_)
    · have h := md_in c47 h
      exact J88 _ hj p5.2 b l2 t0 _ _ _ (by omega) (by omega) (by omega) (by omega) h hw (lv_sub hl [1, 3, 0] rfl)
    · have h := md_ip c47 h
      refine lv_iload_n cx.1 cx.2.1 dX10_findSign_50 rfl (lv_at hl 2 rfl) ?_
      refine lv_bipush (v := 58) cx.1 cx.2.1 dX10_findSign_51 (by decide) ?_
      refine lv_icmp_eq (tgt := 62) cx.1 cx.2.1 dX10_findSign_53 (by decide) (fun c53 => ?_) (fun c53 => ?_)
      · have h := md_ip c53 h
        exact J62 _ hj p5.2 b l1 l2 _ _ _ (by omega) (by omega) (by omega) (by omega) h hw (lv_sub hl [1, 2, 3] rfl)
      · have h := md_in c53 h
        refine lv_iload_n cx.1 cx.2.1 dX10_findSign_56 rfl (lv_at hl 2 rfl) ?_
        refine lv_bipush (v := 61) cx.1 cx.2.1 dX10_findSign_57 (by decide) ?_
        refine lv_icmp_ne (tgt := 88) cx.1 cx.2.1 dX10_findSign_59 (by decide) (fun c59 => ?_) (fun c59 => ?_)
        · have h := md_in c59 h
          exact J88 _ hj p5.2 b l2 t0 _ _ _ (by omega) (by omega) (by omega) (by omega) h hw (lv_sub hl [1, 3, 0] rfl)
        · have h := md_ip c59 h
          exact J62 _ hj p5.2 b l1 l2 _ _ _ (by omega) (by omega) (by omega) (by omega) h hw (lv_sub hl [1, 2, 3] rfl)
  have J25 : ∀ (ca : Nat → Nat) (hj : cd_inj ad ca) (σ : cd_S) (b : cd_B) (l1 : Int32) (l2 : Int32) (H : Heap) (locs : List Loc) (ls : Array Slot), b.1 ≤ b0.1 → b.2 ≤ b0.2 → p.2.2.1 ≤ b.1 → p.2.2.2 ≤ b.2 → f_X10_findSign_J25 n σ b l1 l2 = some p → hp_w D vwCl (hp_Tl cA) E (hp_A (cd_pic cA ad ca0 σ0) sz) ss H locs (cd_pic cA ad ca σ) → lv_has ls 4 [(0, .ref (ad 10 0)), (1, .int l1), (2, .int l2)] → W pp l ee ({ frames := 5, cells := b0.1 - p.2.2.1, slots := b0.2 - p.2.2.2, locals := 179 }) ss mm [.ref (ad 10 0), .int a1].toArray bb mt cd H locs (b0.1 - b.1) (b0.2 - b.2) (MQ bb (hp_Qv D vwCl (hp_Tl cA) sz (cd_pic cA ad ca0 σ0) (fun u => ∃ ca1, cd_inj ad ca1 ∧ u = cd_pic cA ad ca1 p.2.1)) [.ref (ad 10 0), .int a1].toArray ss (b0.1 - p.2.2.1) (b0.2 - p.2.2.2) (hp_A (cd_pic cA ad ca0 σ0) sz)) (F0 mm 25 ls []) := by
    intro ca hj σ b l1 l2 H locs ls hb1 hb2 hf1 hf2 h hw hl
    refine lv_iconst (v := 1) cx.1 cx.2.1 dX10_findSign_25 (by decide) ?_
    exact J26 _ hj σ b l1 l2 1 _ _ _ (by omega) (by omega) (by omega) (by omega) h hw (lv_sub hl [0, 1, 2] rfl)
  refine lv_aload_n cx.1 cx.2.1 dX10_findSign_0 rfl (lv_at hl 0 rfl) ?_
  refine cd_gI (o := 10) (k := 6) (f := 326) hj cx hw hic10 rfl ⟨by decide, rfl, by decide, rfl⟩ rfl (by decide) (List.mem_cons_of_mem _ cm_1047) dX10_findSign_1 ?_
  refine lv_istore_n (lv' := [(2, .int (cI σ0 326 0)), (0, .ref (ad 10 0)), (1, .int a1)]) cx.1 cx.2.1 dX10_findSign_4 rfl hl (by decide) rfl (fun ls hl => ?_)
  refine lv_iload_n cx.1 cx.2.1 dX10_findSign_5 rfl (lv_at hl 2 rfl) ?_
  refine lv_bipush (v := 127) cx.1 cx.2.1 dX10_findSign_6 (by decide) ?_
  refine lv_icmp_ge (tgt := 25) cx.1 cx.2.1 dX10_findSign_8 (by decide) (fun c8 => ?_) (fun c8 => ?_)
  · have h := md_ip c8 h
    exact J25 _ hj σ0 b0 a1 ((cI σ0 326 0)) _ _ _ (by omega) (by omega) (by omega) (by omega) h hw (lv_sub hl [1, 2, 0] rfl)
  · have h := md_in c8 h
    refine va_ldcS cx.1 cx.2.1 cx.2.2.2.2.1 (hE.2.2.2.1 _ _ _ hw.2.2.2.2.2) dX10_findSign_11 ?_
    refine lv_iload_n cx.1 cx.2.1 dX10_findSign_13 rfl (lv_at hl 2 rfl) ?_
    refine lv_i2c (v := ((a1.toUInt32 % 65536).toInt32)) cx.1 cx.2.1 dX10_findSign_14 rfl ?_
    obtain ⟨r6, e_r6, h⟩ := md_ob h
    refine hp_callKi (As := [.int ((a1.toUInt32 % 65536).toInt32)]) (rest := []) cx hw (cd_signM (l := l) hE e_r6) (cwV 1 cx.2.2.2.2.2.1 (cd_giK cm_1068 cm_1069 cm_1070 cm_1071 hinc_J0_indexOf_0f7a4) rfl rfl rfl (by decide +kernel) ⟨Nat.le_of_ble_eq_true rfl, Nat.le_of_ble_eq_true rfl⟩) (hE.2.2.2.2 _ _ _ hw.2.2.2.2.2).1 rfl hl.1 rfl (Nat.le_of_ble_eq_true rfl) dX10_findSign_15 ⟨by (try dsimp only); omega, by (try dsimp only); omega⟩ (fun r u H locs hp hw => ?_)
    obtain ⟨rfl, rfl⟩ := hp
    refine lv_if_lt (tgt := 25) cx.1 cx.2.1 dX10_findSign_18 (by decide) (fun c18 => ?_) (fun c18 => ?_)
    · have h := md_ip c18 h
      exact J25 _ hj σ0 b0 a1 ((cI σ0 326 0)) _ _ _ (by omega) (by omega) (by omega) (by omega) h hw (lv_sub hl [1, 2, 0] rfl)
    · have h := md_in c18 h
      refine lv_iload_n cx.1 cx.2.1 dX10_findSign_21 rfl (lv_at hl 2 rfl) ?_
      refine lv_goto (tgt := 26) cx.1 cx.2.1 dX10_findSign_22 (by decide) ?_
      exact J26 _ hj σ0 b0 a1 ((cI σ0 326 0)) a1 _ _ _ (by omega) (by omega) (by omega) (by omega) h hw (lv_sub hl [1, 2, 0] rfl)
set_option maxHeartbeats 4000000 in
set_option maxRecDepth 100000 in
theorem kc_X10_skipBlanks (l : Launch) (D : va_G) (cA : Nat → ClassId) (E : hp_N) (sz : Nat) (ad : Nat → Nat → Nat) (ca0 : Nat → Nat) (hj : cd_inj ad ca0) (oq sgq sgv : Nat) (hE : cd_E E oq sgq sgv) (n : Nat) (σ0 : cd_S) (p : (Int32 × cd_S)) (h : f_X10_skipBlanks n σ0 = some p) : Met l yX10_skipBlanks (Cond.code yX10_skipBlanks cX10_skipBlanks 3 none :: v_CLS) ({ frames := 1, cells := 0, slots := 0, locals := 21 }) (hp_Pc D vwCl (hp_Tl cA) E sz (cd_pic cA ad ca0 σ0) [.ref (ad 10 0)]) (hp_Qv D vwCl (hp_Tl cA) sz (cd_pic cA ad ca0 σ0) (fun u => ∃ ca1, cd_inj ad ca1 ∧ u = cd_pic cA ad ca1 p.2)) 0 0 (hp_A (cd_pic cA ad ca0 σ0) sz) := by
  refine hp_ofW (cc := cX10_skipBlanks) (maxL := 3) (ret := none) (by decide) rfl (Nat.le_of_ble_eq_true rfl) ?_
  intro pp ee ss mm bb mt cd ls cx hsz hw hl
  have hl : lv_has ls 3 [(0, .ref (ad 10 0))] := hl
  refine lv_iconst (v := 0) cx.1 cx.2.1 dX10_skipBlanks_0 (by decide) ?_
  refine lv_istore_n (lv' := [(1, .int 0), (0, .ref (ad 10 0))]) cx.1 cx.2.1 dX10_skipBlanks_1 rfl hl (by decide) rfl (fun ls hl => ?_)
  have L2 : ∀ (j : Nat) (ca : Nat → Nat) (hj : cd_inj ad ca) (σ : cd_S) (l1 : Int32) (q : ((Int32 × cd_S) ⊕ (cd_S × Int32))) (H : Heap) (locs : List Loc) (ls : Array Slot), f_X10_skipBlanks_L2 n j σ l1 = some q → hp_w D vwCl (hp_Tl cA) E (hp_A (cd_pic cA ad ca0 σ0) sz) ss H locs (cd_pic cA ad ca σ) → lv_has ls 3 [(0, .ref (ad 10 0)), (1, .int l1)] → (∀ t, q = Sum.inr t → (∀ (ca : Nat → Nat) (hj : cd_inj ad ca) (H : Heap) (locs : List Loc) (ls : Array Slot), hp_w D vwCl (hp_Tl cA) E (hp_A (cd_pic cA ad ca0 σ0) sz) ss H locs (cd_pic cA ad ca t.1) → lv_has ls 3 [] → W pp l ee ({ frames := 1, cells := 0, slots := 0, locals := 21 }) ss mm [.ref (ad 10 0)].toArray bb mt cd H locs 0 0 (MQ bb (hp_Qv D vwCl (hp_Tl cA) sz (cd_pic cA ad ca0 σ0) (fun u => ∃ ca1, cd_inj ad ca1 ∧ u = cd_pic cA ad ca1 p.2)) [.ref (ad 10 0)].toArray ss 0 0 (hp_A (cd_pic cA ad ca0 σ0) sz)) (F0 mm 74 ls []))) → (∀ r, q = Sum.inl r → r = p) → W pp l ee ({ frames := 1, cells := 0, slots := 0, locals := 21 }) ss mm [.ref (ad 10 0)].toArray bb mt cd H locs 0 0 (MQ bb (hp_Qv D vwCl (hp_Tl cA) sz (cd_pic cA ad ca0 σ0) (fun u => ∃ ca1, cd_inj ad ca1 ∧ u = cd_pic cA ad ca1 p.2)) [.ref (ad 10 0)].toArray ss 0 0 (hp_A (cd_pic cA ad ca0 σ0) sz)) (F0 mm 2 ls []) := by
    intro j
    induction j with
    | zero => intro ca hj σ l1 q H locs ls h; exact nomatch h
    | succ j ih =>
      intro ca hj σ l1 q H locs ls h hw hl K KR
      unfold f_X10_skipBlanks_L2 at h
      have J61 : ∀ (ca : Nat → Nat) (hj : cd_inj ad ca) (σ : cd_S) (l1 : Int32) (H : Heap) (locs : List Loc) (ls : Array Slot), f_X10_skipBlanks_J61 n (f_X10_skipBlanks_L2 n j) σ l1 = some q → hp_w D vwCl (hp_Tl cA) E (hp_A (cd_pic cA ad ca0 σ0) sz) ss H locs (cd_pic cA ad ca σ) → lv_has ls 3 [(0, .ref (ad 10 0)), (1, .int l1)] → W pp l ee ({ frames := 1, cells := 0, slots := 0, locals := 21 }) ss mm [.ref (ad 10 0)].toArray bb mt cd H locs 0 0 (MQ bb (hp_Qv D vwCl (hp_Tl cA) sz (cd_pic cA ad ca0 σ0) (fun u => ∃ ca1, cd_inj ad ca1 ∧ u = cd_pic cA ad ca1 p.2)) [.ref (ad 10 0)].toArray ss 0 0 (hp_A (cd_pic cA ad ca0 σ0) sz)) (F0 mm 61 ls []) := by
        intro ca hj σ l1 H locs ls h hw hl
        refine lv_aload_n cx.1 cx.2.1 dX10_skipBlanks_61 rfl (lv_at hl 0 rfl) ?_
        refine lv_dup cx.1 cx.2.1 dX10_skipBlanks_62 rfl ?_
        refine cd_gI (o := 10) (k := 6) (f := 326) hj cx hw hic10 rfl ⟨by decide, rfl, by decide, rfl⟩ rfl (by decide) (List.mem_cons_of_mem _ cm_1047) dX10_skipBlanks_63 ?_
        refine lv_iconst (v := 1) cx.1 cx.2.1 dX10_skipBlanks_66 (by decide) ?_
        refine lv_iadd cx.1 cx.2.1 dX10_skipBlanks_67 ?_
        obtain ⟨σ1, e_σ1, h⟩ := md_ob h
        refine cd_pI (o := 10) (k := 6) (f := 326) hj cx hw hic10 rfl ⟨by decide, rfl, by decide, rfl⟩ tyX10_ok nmX10 rfl (by decide) rfl (List.mem_cons_of_mem _ cm_1047) rfl e_σ1 dX10_skipBlanks_68 (fun H locs hw => ?_)
        refine lv_goto (tgt := 2) cx.1 cx.2.1 dX10_skipBlanks_71 (by decide) ?_
        exact ih _ hj σ1 l1 q _ _ _ h hw (lv_sub hl [0, 1] rfl) K KR
      have J43 : ∀ (ca : Nat → Nat) (hj : cd_inj ad ca) (σ : cd_S) (l2 : Int32) (t0 : Int32) (H : Heap) (locs : List Loc) (ls : Array Slot), f_X10_skipBlanks_J43 n (f_X10_skipBlanks_L2 n j) σ l2 t0 = some q → hp_w D vwCl (hp_Tl cA) E (hp_A (cd_pic cA ad ca0 σ0) sz) ss H locs (cd_pic cA ad ca σ) → lv_has ls 3 [(0, .ref (ad 10 0)), (2, .int l2)] → W pp l ee ({ frames := 1, cells := 0, slots := 0, locals := 21 }) ss mm [.ref (ad 10 0)].toArray bb mt cd H locs 0 0 (MQ bb (hp_Qv D vwCl (hp_Tl cA) sz (cd_pic cA ad ca0 σ0) (fun u => ∃ ca1, cd_inj ad ca1 ∧ u = cd_pic cA ad ca1 p.2)) [.ref (ad 10 0)].toArray ss 0 0 (hp_A (cd_pic cA ad ca0 σ0) sz)) (F0 mm 43 ls [.int t0]) := by
        intro ca hj σ l2 t0 H locs ls h hw hl
        refine lv_istore_n (lv' := [(1, .int t0), (0, .ref (ad 10 0)), (2, .int l2)]) cx.1 cx.2.1 dX10_skipBlanks_43 rfl hl (by decide) rfl (fun ls hl => ?_)
        refine lv_iload_n cx.1 cx.2.1 dX10_skipBlanks_44 rfl (lv_at hl 0 rfl) ?_
        refine lv_if_ne (tgt := 61) cx.1 cx.2.1 dX10_skipBlanks_45 (by decide) (fun c45 => ?_) (fun c45 => ?_)
        · have h := md_in c45 h
          exact J61 _ hj σ t0 _ _ _ h hw (lv_sub hl [1, 0] rfl)
        · have h := md_ip c45 h
          refine lv_iload_n cx.1 cx.2.1 dX10_skipBlanks_48 rfl (lv_at hl 2 rfl) ?_
          refine lv_bipush (v := 32) cx.1 cx.2.1 dX10_skipBlanks_49 (by decide) ?_
          refine lv_icmp_eq (tgt := 61) cx.1 cx.2.1 dX10_skipBlanks_51 (by decide) (fun c51 => ?_) (fun c51 => ?_)
          · have h := md_ip c51 h
            exact J61 _ hj σ t0 _ _ _ h hw (lv_sub hl [1, 0] rfl)
          · have h := md_in c51 h
            refine lv_iload_n cx.1 cx.2.1 dX10_skipBlanks_54 rfl (lv_at hl 2 rfl) ?_
            refine lv_bipush (v := 10) cx.1 cx.2.1 dX10_skipBlanks_55 (by decide) ?_
            refine lv_icmp_eq (tgt := 61) cx.1 cx.2.1 dX10_skipBlanks_57 (by decide) (fun c57 => ?_) (fun c57 => ?_)
            · have h := md_ip c57 h
              exact J61 _ hj σ t0 _ _ _ h hw (lv_sub hl [1, 0] rfl)
            · have h := md_in c57 h
              exact hp_vret cx hw ((cd_ret hj (congrArg some (KR _ (Option.some.inj h).symm))).2) dX10_skipBlanks_60
      have J42 : ∀ (ca : Nat → Nat) (hj : cd_inj ad ca) (σ : cd_S) (l2 : Int32) (H : Heap) (locs : List Loc) (ls : Array Slot), f_X10_skipBlanks_J42 n (f_X10_skipBlanks_L2 n j) σ l2 = some q → hp_w D vwCl (hp_Tl cA) E (hp_A (cd_pic cA ad ca0 σ0) sz) ss H locs (cd_pic cA ad ca σ) → lv_has ls 3 [(0, .ref (ad 10 0)), (2, .int l2)] → W pp l ee ({ frames := 1, cells := 0, slots := 0, locals := 21 }) ss mm [.ref (ad 10 0)].toArray bb mt cd H locs 0 0 (MQ bb (hp_Qv D vwCl (hp_Tl cA) sz (cd_pic cA ad ca0 σ0) (fun u => ∃ ca1, cd_inj ad ca1 ∧ u = cd_pic cA ad ca1 p.2)) [.ref (ad 10 0)].toArray ss 0 0 (hp_A (cd_pic cA ad ca0 σ0) sz)) (F0 mm 42 ls []) := by
        intro ca hj σ l2 H locs ls h hw hl
        refine lv_iconst (v := 0) cx.1 cx.2.1 dX10_skipBlanks_42 (by decide) ?_
        exact J43 _ hj σ l2 0 _ _ _ h hw (lv_sub hl [0, 1] rfl)
      have J38 : ∀ (ca : Nat → Nat) (hj : cd_inj ad ca) (σ : cd_S) (l2 : Int32) (H : Heap) (locs : List Loc) (ls : Array Slot), f_X10_skipBlanks_J38 n (f_X10_skipBlanks_L2 n j) σ l2 = some q → hp_w D vwCl (hp_Tl cA) E (hp_A (cd_pic cA ad ca0 σ0) sz) ss H locs (cd_pic cA ad ca σ) → lv_has ls 3 [(0, .ref (ad 10 0)), (2, .int l2)] → W pp l ee ({ frames := 1, cells := 0, slots := 0, locals := 21 }) ss mm [.ref (ad 10 0)].toArray bb mt cd H locs 0 0 (MQ bb (hp_Qv D vwCl (hp_Tl cA) sz (cd_pic cA ad ca0 σ0) (fun u => ∃ ca1, cd_inj ad ca1 ∧ u = cd_pic cA ad ca1 p.2)) [.ref (ad 10 0)].toArray ss 0 0 (hp_A (cd_pic cA ad ca0 σ0) sz)) (F0 mm 38 ls []) := by
        intro ca hj σ l2 H locs ls h hw hl
        refine lv_iconst (v := 1) cx.1 cx.2.1 dX10_skipBlanks_38 (by decide) ?_
        refine lv_goto (tgt := 43) cx.1 cx.2.1 dX10_skipBlanks_39 (by decide) ?_
        exact J43 _ hj σ l2 1 _ _ _ h hw (lv_sub hl [0, 1] rfl)
      refine lv_aload_n cx.1 cx.2.1 dX10_skipBlanks_2 rfl (lv_at hl 0 rfl) ?_
      refine cd_gI (o := 10) (k := 6) (f := 326) hj cx hw hic10 rfl ⟨by decide, rfl, by decide, rfl⟩ rfl (by decide) (List.mem_cons_of_mem _ cm_1047) dX10_skipBlanks_3 ?_
      refine lv_aload_n cx.1 cx.2.1 dX10_skipBlanks_6 rfl (lv_at hl 0 rfl) ?_
      refine cd_gI (o := 10) (k := 4) (f := 324) hj cx hw hic10 rfl ⟨by decide, rfl, by decide, rfl⟩ rfl (by decide) (List.mem_cons_of_mem _ cm_1035) dX10_skipBlanks_7 ?_
      refine lv_icmp_ge (tgt := 74) cx.1 cx.2.1 dX10_skipBlanks_10 (by decide) (fun c10 => ?_) (fun c10 => ?_)
      · have h := md_ip c10 h
        exact K _ (Option.some.inj h).symm _ hj _ _ _ hw (lv_sub hl [] rfl)
      · have h := md_in c10 h
        refine lv_aload_n cx.1 cx.2.1 dX10_skipBlanks_13 rfl (lv_at hl 0 rfl) ?_
        refine lv_aload_n cx.1 cx.2.1 dX10_skipBlanks_14 rfl (lv_at hl 0 rfl) ?_
        refine cd_gI (o := 10) (k := 6) (f := 326) hj cx hw hic10 rfl ⟨by decide, rfl, by decide, rfl⟩ rfl (by decide) (List.mem_cons_of_mem _ cm_1047) dX10_skipBlanks_15 ?_
        obtain ⟨p2, e_p2, h⟩ := md_ob h
        refine hp_callVi (As := [.int (cI σ 326 0)]) (rest := []) cx hw (kc_X10_byteAt l D cA E _ ad _ hj oq sgq sgv hE n σ ((cI σ 326 0)) p2 e_p2) (cwV 1 cx.2.2.2.2.2.1 (cd_giV cm_1037 cm_1038 cm_1039 cm_301 cm_1040) rfl rfl rfl hdc_X10_byteAt ⟨Nat.le_of_ble_eq_true rfl, Nat.le_of_ble_eq_true rfl⟩) (cd_atO hj (by decide) (by decide)) rfl rfl hl.1 rfl (Nat.le_of_ble_eq_true rfl) dX10_skipBlanks_18 ⟨Nat.le_refl _, Nat.le_refl _⟩ (fun r u H locs hp hw => ?_)
        obtain ⟨rfl, ca, hj, rfl⟩ := hp
        refine lv_istore_n (lv' := [(2, .int p2.1), (0, .ref (ad 10 0)), (1, .int l1)]) cx.1 cx.2.1 dX10_skipBlanks_21 rfl hl (by decide) rfl (fun ls hl => ?_)
        refine lv_iload_n cx.1 cx.2.1 dX10_skipBlanks_22 rfl (lv_at hl 0 rfl) ?_
        refine lv_bipush (v := 35) cx.1 cx.2.1 dX10_skipBlanks_23 (by decide) ?_
        refine lv_icmp_eq (tgt := 38) cx.1 cx.2.1 dX10_skipBlanks_25 (by decide) (fun c25 => ?_) (fun c25 => ?_)
        · have h := md_ip c25 h
          exact J38 _ hj p2.2 (p2.1) _ _ _ h hw (lv_sub hl [1, 0] rfl)
        · have h := md_in c25 h
          refine lv_iload_n cx.1 cx.2.1 dX10_skipBlanks_28 rfl (lv_at hl 2 rfl) ?_
          refine lv_if_eq (tgt := 42) cx.1 cx.2.1 dX10_skipBlanks_29 (by decide) (fun c29 => ?_) (fun c29 => ?_)
          · have h := md_ip c29 h
            exact J42 _ hj p2.2 (p2.1) _ _ _ h hw (lv_sub hl [1, 0] rfl)
          · have h := md_in c29 h
            refine lv_iload_n cx.1 cx.2.1 dX10_skipBlanks_32 rfl (lv_at hl 0 rfl) ?_
            refine lv_bipush (v := 10) cx.1 cx.2.1 dX10_skipBlanks_33 (by decide) ?_
            refine lv_icmp_eq (tgt := 42) cx.1 cx.2.1 dX10_skipBlanks_35 (by decide) (fun c35 => ?_) (fun c35 => ?_)
            · have h := md_ip c35 h
              exact J42 _ hj p2.2 (p2.1) _ _ _ h hw (lv_sub hl [1, 0] rfl)
            · have h := md_in c35 h
              exact J38 _ hj p2.2 (p2.1) _ _ _ h hw (lv_sub hl [1, 0] rfl)
  obtain ⟨q3, e_q3, h⟩ := md_ob h
  refine L2 n _ hj σ0 0 q3 _ _ _ e_q3 hw (lv_sub hl [1, 0] rfl) (fun t3 hq3 ca hj H locs ls hw hl => ?_) (fun r hr => by subst hr; exact Option.some.inj h)
  subst hq3
  have h := md_inr h
  exact hp_vret cx hw ((cd_ret hj h).2) dX10_skipBlanks_74
set_option maxHeartbeats 4000000 in
set_option maxRecDepth 100000 in
theorem kc_X10_findWord (l : Launch) (D : va_G) (cA : Nat → ClassId) (E : hp_N) (sz : Nat) (ad : Nat → Nat → Nat) (ca0 : Nat → Nat) (hj : cd_inj ad ca0) (oq sgq sgv : Nat) (hE : cd_E E oq sgq sgv) (n : Nat) (σ0 : cd_S) (b0 : cd_B) (p : (Int32 × cd_S × cd_B)) (h : f_X10_findWord n σ0 b0 = some p) : (p.2.2.1 ≤ b0.1 ∧ p.2.2.2 ≤ b0.2) ∧ Met l yX10_findWord (Cond.code yX10_findWord cX10_findWord 4 (some .boolean) :: v_CLS) ({ frames := 6, cells := b0.1 - p.2.2.1, slots := b0.2 - p.2.2.2, locals := 202 }) (hp_Pc D vwCl (hp_Tl cA) E sz (cd_pic cA ad ca0 σ0) [.ref (ad 10 0)]) (hp_Qi D vwCl (hp_Tl cA) sz (cd_pic cA ad ca0 σ0) (fun r u => r = p.1 ∧ ∃ ca1, cd_inj ad ca1 ∧ u = cd_pic cA ad ca1 p.2.1)) (b0.1 - p.2.2.1) (b0.2 - p.2.2.2) (hp_A (cd_pic cA ad ca0 σ0) sz) := by
  obtain ⟨hm0, hn0, h⟩ := cd_cks h
  have hM0 : p.2.2.1 ≤ b0.1 ∧ p.2.2.2 ≤ b0.2 := ⟨hm0, hn0⟩
  refine ⟨hM0, ?_⟩
  refine hp_ofW (cc := cX10_findWord) (maxL := 4) (ret := (some .boolean)) (by decide) rfl (Nat.le_of_ble_eq_true rfl) ?_
  intro pp ee ss mm bb mt cd ls cx hsz hw hl
  have hl : lv_has ls 4 [(0, .ref (ad 10 0))] := hl
  refine W.widen (k := b0.1 - b0.1) (n := b0.2 - b0.2) (Nat.zero_le _) (Nat.zero_le _) ?_
  have J79 : ∀ (ca : Nat → Nat) (hj : cd_inj ad ca) (σ : cd_S) (b : cd_B) (H : Heap) (locs : List Loc) (ls : Array Slot), b.1 ≤ b0.1 → b.2 ≤ b0.2 → p.2.2.1 ≤ b.1 → p.2.2.2 ≤ b.2 → f_X10_findWord_J79 n σ b = some p → hp_w D vwCl (hp_Tl cA) E (hp_A (cd_pic cA ad ca0 σ0) sz) ss H locs (cd_pic cA ad ca σ) → lv_has ls 4 [(0, .ref (ad 10 0))] → W pp l ee ({ frames := 6, cells := b0.1 - p.2.2.1, slots := b0.2 - p.2.2.2, locals := 202 }) ss mm [.ref (ad 10 0)].toArray bb mt cd H locs (b0.1 - b.1) (b0.2 - b.2) (MQ bb (hp_Qi D vwCl (hp_Tl cA) sz (cd_pic cA ad ca0 σ0) (fun r u => r = p.1 ∧ ∃ ca1, cd_inj ad ca1 ∧ u = cd_pic cA ad ca1 p.2.1)) [.ref (ad 10 0)].toArray ss (b0.1 - p.2.2.1) (b0.2 - p.2.2.2) (hp_A (cd_pic cA ad ca0 σ0) sz)) (F0 mm 79 ls []) := by
    intro ca hj σ b H locs ls hb1 hb2 hf1 hf2 h hw hl
    refine lv_aload_n cx.1 cx.2.1 dX10_findWord_79 rfl (lv_at hl 0 rfl) ?_
    refine cd_gO (o2 := 6) (e2 := 0) (o := 10) (k := 1) (f := 321) hj cx hw hic10 rfl ⟨by decide, rfl, by decide, rfl⟩ rfl (by decide) ⟨rfl, rfl⟩ (List.mem_cons_of_mem _ cm_649) dX10_findWord_80 ?_
    refine lv_aload_n cx.1 cx.2.1 dX10_findWord_83 rfl (lv_at hl 0 rfl) ?_
    refine cd_gO (o2 := 6) (e2 := 0) (o := 10) (k := 1) (f := 321) hj cx hw hic10 rfl ⟨by decide, rfl, by decide, rfl⟩ rfl (by decide) ⟨rfl, rfl⟩ (List.mem_cons_of_mem _ cm_649) dX10_findWord_84 ?_
    refine cd_gI (o := 6) (k := 1) (f := 193) hj cx hw hic6 rfl ⟨by decide, rfl, by decide, rfl⟩ rfl (by decide) (List.mem_cons_of_mem _ cm_1060) dX10_findWord_87 ?_
    refine lv_iconst (v := 3) cx.1 cx.2.1 dX10_findWord_90 (by decide) ?_
    refine lv_isub cx.1 cx.2.1 dX10_findWord_91 ?_
    obtain ⟨p1, e_p1, h⟩ := md_ob h
    refine hp_callVi (As := [.int ((cI σ 193 0) - 3)]) (rest := []) cx hw (kc_X6_at l D cA E _ ad _ hj oq sgq sgv hE n σ 0 (((cI σ 193 0) - 3)) (by decide) p1 e_p1) (cwV 1 cx.2.2.2.2.2.1 (cd_giV cm_651 cm_17 cm_18 cm_5 cm_19) rfl rfl rfl hdc_X6_at ⟨Nat.le_of_ble_eq_true rfl, Nat.le_of_ble_eq_true rfl⟩) (cd_atO hj (by decide) (by decide)) rfl rfl hl.1 rfl (Nat.le_of_ble_eq_true rfl) dX10_findWord_92 ⟨by (try dsimp only); omega, by (try dsimp only); omega⟩ (fun r u H locs hp hw => ?_)
    obtain ⟨rfl, ca, hj, rfl⟩ := hp
    refine lv_istore_n (lv' := [(3, .int p1.1), (0, .ref (ad 10 0))]) cx.1 cx.2.1 dX10_findWord_95 rfl hl (by decide) rfl (fun ls hl => ?_)
    refine lv_iload_n cx.1 cx.2.1 dX10_findWord_96 rfl (lv_at hl 0 rfl) ?_
    refine lv_if_eq (tgt := 109) cx.1 cx.2.1 dX10_findWord_97 (by decide) (fun c97 => ?_) (fun c97 => ?_)
    · have h := md_ip c97 h
      refine lv_iconst (v := 0) cx.1 cx.2.1 dX10_findWord_109 (by decide) ?_
      exact hp_zret cx hw (cd_retb hj h) (by decide) dX10_findWord_110 (cd_le1 h) (cd_le2 h)
    · have h := md_in c97 h
      refine lv_iload_n cx.1 cx.2.1 dX10_findWord_100 rfl (lv_at hl 0 rfl) ?_
      refine lv_iconst (v := 1) cx.1 cx.2.1 dX10_findWord_101 (by decide) ?_
      refine lv_icmp_eq (tgt := 109) cx.1 cx.2.1 dX10_findWord_102 (by decide) (fun c102 => ?_) (fun c102 => ?_)
      · have h := md_ip c102 h
        refine lv_iconst (v := 0) cx.1 cx.2.1 dX10_findWord_109 (by decide) ?_
        exact hp_zret cx hw (cd_retb hj h) (by decide) dX10_findWord_110 (cd_le1 h) (cd_le2 h)
      · have h := md_in c102 h
        refine lv_iconst (v := 1) cx.1 cx.2.1 dX10_findWord_105 (by decide) ?_
        refine lv_goto (tgt := 110) cx.1 cx.2.1 dX10_findWord_106 (by decide) ?_
        exact hp_zret cx hw (cd_retb hj h) (by decide) dX10_findWord_110 (cd_le1 h) (cd_le2 h)
  refine lv_aload_n cx.1 cx.2.1 dX10_findWord_0 rfl (lv_at hl 0 rfl) ?_
  obtain ⟨p2, e_p2, h⟩ := md_ob h
  refine hp_callVv (As := []) (rest := []) cx hw (kc_X10_skipBlanks l D cA E _ ad _ hj oq sgq sgv hE n σ0  p2 e_p2) (cwV 0 cx.2.2.2.2.2.1 (cd_giV cm_1073 cm_1074 cm_1075 cm_301 cm_1076) rfl rfl rfl hdc_X10_skipBlanks ⟨Nat.le_of_ble_eq_true rfl, Nat.le_of_ble_eq_true rfl⟩) (cd_atO hj (by decide) (by decide)) rfl rfl hl.1 rfl (Nat.le_of_ble_eq_true rfl) dX10_findWord_1 ⟨by (try dsimp only); omega, by (try dsimp only); omega⟩ (fun u H locs hp hw => ?_)
  obtain ⟨ca, hj, rfl⟩ := hp
  refine lv_aload_n cx.1 cx.2.1 dX10_findWord_4 rfl (lv_at hl 0 rfl) ?_
  refine cd_gI (o := 10) (k := 6) (f := 326) hj cx hw hic10 rfl ⟨by decide, rfl, by decide, rfl⟩ rfl (by decide) (List.mem_cons_of_mem _ cm_1047) dX10_findWord_5 ?_
  refine lv_istore_n (lv' := [(1, .int (cI p2.2 326 0)), (0, .ref (ad 10 0))]) cx.1 cx.2.1 dX10_findWord_8 rfl hl (by decide) rfl (fun ls hl => ?_)
  refine lv_aload_n cx.1 cx.2.1 dX10_findWord_9 rfl (lv_at hl 1 rfl) ?_
  refine lv_aload_n cx.1 cx.2.1 dX10_findWord_10 rfl (lv_at hl 1 rfl) ?_
  refine cd_gI (o := 10) (k := 6) (f := 326) hj cx hw hic10 rfl ⟨by decide, rfl, by decide, rfl⟩ rfl (by decide) (List.mem_cons_of_mem _ cm_1047) dX10_findWord_11 ?_
  obtain ⟨p3, e_p3, h⟩ := md_ob h
  refine hp_callVi (As := [.int (cI p2.2 326 0)]) (rest := []) cx hw (kc_X10_byteAt l D cA E _ ad _ hj oq sgq sgv hE n p2.2 ((cI p2.2 326 0)) p3 e_p3) (cwV 1 cx.2.2.2.2.2.1 (cd_giV cm_1037 cm_1038 cm_1039 cm_301 cm_1040) rfl rfl rfl hdc_X10_byteAt ⟨Nat.le_of_ble_eq_true rfl, Nat.le_of_ble_eq_true rfl⟩) (cd_atO hj (by decide) (by decide)) rfl rfl hl.1 rfl (Nat.le_of_ble_eq_true rfl) dX10_findWord_14 ⟨by (try dsimp only); omega, by (try dsimp only); omega⟩ (fun r u H locs hp hw => ?_)
  obtain ⟨rfl, ca, hj, rfl⟩ := hp
  refine lv_istore_n (lv' := [(2, .int p3.1), (1, .int (cI p2.2 326 0)), (0, .ref (ad 10 0))]) cx.1 cx.2.1 dX10_findWord_17 rfl hl (by decide) rfl (fun ls hl => ?_)
  refine lv_iload_n cx.1 cx.2.1 dX10_findWord_18 rfl (lv_at hl 0 rfl) ?_
  refine lv_iconst (v := (-1)) cx.1 cx.2.1 dX10_findWord_19 (by decide) ?_
  refine lv_icmp_ne (tgt := 33) cx.1 cx.2.1 dX10_findWord_20 (by decide) (fun c20 => ?_) (fun c20 => ?_)
  · have h := md_in c20 h
    refine lv_iload_n cx.1 cx.2.1 dX10_findWord_33 rfl (lv_at hl 0 rfl) ?_
    obtain ⟨p4, e_p4, h⟩ := md_ob h
    refine hp_callSi (As := [.int p3.1]) (rest := []) cx hw (kc_X10_isLetter l D cA E _ ad _ hj oq sgq sgv hE n p3.2 (p3.1) p4 e_p4) (cwS 1 cx.2.2.2.2.2.1 (cd_giS cm_1041 cm_1042 cm_301 cm_1043) rfl rfl rfl hdc_X10_isLetter ⟨Nat.le_of_ble_eq_true rfl, Nat.le_of_ble_eq_true rfl⟩) rfl hl.1 rfl (Nat.le_of_ble_eq_true rfl) dX10_findWord_34 ⟨by (try dsimp only); omega, by (try dsimp only); omega⟩ (fun r u H locs hp hw => ?_)
    obtain ⟨rfl, ca, hj, rfl⟩ := hp
    refine lv_if_eq (tgt := 47) cx.1 cx.2.1 dX10_findWord_37 (by decide) (fun c37 => ?_) (fun c37 => ?_)
    · have h := md_ip c37 h
      refine lv_iload_n cx.1 cx.2.1 dX10_findWord_47 rfl (lv_at hl 0 rfl) ?_
      obtain ⟨p5, e_p5, h⟩ := md_ob h
      refine hp_callSi (As := [.int p3.1]) (rest := []) cx hw (kc_X10_isDigit l D cA E _ ad _ hj oq sgq sgv hE n p4.2 (p3.1) p5 e_p5) (cwS 1 cx.2.2.2.2.2.1 (cd_giS cm_1044 cm_1045 cm_301 cm_1046) rfl rfl rfl hdc_X10_isDigit ⟨Nat.le_of_ble_eq_true rfl, Nat.le_of_ble_eq_true rfl⟩) rfl hl.1 rfl (Nat.le_of_ble_eq_true rfl) dX10_findWord_48 ⟨by (try dsimp only); omega, by (try dsimp only); omega⟩ (fun r u H locs hp hw => ?_)
      obtain ⟨rfl, ca, hj, rfl⟩ := hp
      refine lv_if_eq (tgt := 61) cx.1 cx.2.1 dX10_findWord_51 (by decide) (fun c51 => ?_) (fun c51 => ?_)
      · have h := md_ip c51 h
        refine lv_iload_n cx.1 cx.2.1 dX10_findWord_61 rfl (lv_at hl 0 rfl) ?_
        refine lv_bipush (v := 47) cx.1 cx.2.1 dX10_findWord_62 (by decide) ?_
        refine lv_icmp_ne (tgt := 74) cx.1 cx.2.1 dX10_findWord_64 (by decide) (fun c64 => ?_) (fun c64 => ?_)
        · have h := md_in c64 h
          refine lv_aload_n cx.1 cx.2.1 dX10_findWord_74 rfl (lv_at hl 2 rfl) ?_
          refine lv_iload_n cx.1 cx.2.1 dX10_findWord_75 rfl (lv_at hl 0 rfl) ?_
          obtain ⟨p6, e_p6, h⟩ := md_ob h
          obtain ⟨hm7, hn7, h⟩ := cd_cks h
          have hM7 : p.2.2.1 ≤ p6.2.2.1 ∧ p.2.2.2 ≤ p6.2.2.2 := ⟨hm7, hn7⟩
          have hle6 := (kc_X10_findSign l D cA E sz ad _ hj oq sgq sgv hE n p5.2 b0 (p3.1) p6 e_p6).1
          refine hp_callVv (As := [.int p3.1]) (rest := []) cx hw ((kc_X10_findSign l D cA E _ ad _ hj oq sgq sgv hE n p5.2 b0 (p3.1) p6 e_p6).2) (cwV 1 cx.2.2.2.2.2.1 (cd_giV cm_1077 cm_1078 cm_1079 cm_301 cm_1080) rfl rfl rfl hdc_X10_findSign ⟨Nat.le_of_ble_eq_true rfl, Nat.le_of_ble_eq_true rfl⟩) (cd_atO hj (by decide) (by decide)) rfl rfl hl.1 rfl (Nat.le_of_ble_eq_true rfl) dX10_findWord_76 ⟨by (try dsimp only); omega, by (try dsimp only); omega⟩ (fun u H locs hp hw => ?_)
          obtain ⟨ca, hj, rfl⟩ := hp
          refine W.widen (k := b0.1 - p6.2.2.1) (n := b0.2 - p6.2.2.2) (by omega) (by omega) ?_
          exact J79 _ hj p6.2.1 (p6.2.2) _ _ _ (by omega) (by omega) (by omega) (by omega) h hw (lv_sub hl [2] rfl)
        · have h := md_ip c64 h
          refine lv_aload_n cx.1 cx.2.1 dX10_findWord_67 rfl (lv_at hl 2 rfl) ?_
          obtain ⟨p8, e_p8, h⟩ := md_ob h
          obtain ⟨hm9, hn9, h⟩ := cd_cks h
          have hM9 : p.2.2.1 ≤ p8.2.2.1 ∧ p.2.2.2 ≤ p8.2.2.2 := ⟨hm9, hn9⟩
          have hle8 := (kc_X10_findPattern l D cA E sz ad _ hj oq sgq sgv hE n p5.2 b0  p8 e_p8).1
          refine hp_callVv (As := []) (rest := []) cx hw ((kc_X10_findPattern l D cA E _ ad _ hj oq sgq sgv hE n p5.2 b0  p8 e_p8).2) (cwV 0 cx.2.2.2.2.2.1 (cd_giV cm_1081 cm_1082 cm_1083 cm_301 cm_1084) rfl rfl rfl hdc_X10_findPattern ⟨Nat.le_of_ble_eq_true rfl, Nat.le_of_ble_eq_true rfl⟩) (cd_atO hj (by decide) (by decide)) rfl rfl hl.1 rfl (Nat.le_of_ble_eq_true rfl) dX10_findWord_68 ⟨by (try dsimp only); omega, by (try dsimp only); omega⟩ (fun u H locs hp hw => ?_)
          obtain ⟨ca, hj, rfl⟩ := hp
          refine W.widen (k := b0.1 - p8.2.2.1) (n := b0.2 - p8.2.2.2) (by omega) (by omega) ?_
          refine lv_goto (tgt := 79) cx.1 cx.2.1 dX10_findWord_71 (by decide) ?_
          exact J79 _ hj p8.2.1 (p8.2.2) _ _ _ (by omega) (by omega) (by omega) (by omega) h hw (lv_sub hl [2] rfl)
      · have h := md_in c51 h
        refine lv_aload_n cx.1 cx.2.1 dX10_findWord_54 rfl (lv_at hl 2 rfl) ?_
        obtain ⟨p10, e_p10, h⟩ := md_ob h
        obtain ⟨hm11, hn11, h⟩ := cd_cks h
        have hM11 : p.2.2.1 ≤ p10.2.2.1 ∧ p.2.2.2 ≤ p10.2.2.2 := ⟨hm11, hn11⟩
        have hle10 := (kc_X10_findNumber l D cA E sz ad _ hj oq sgq sgv hE n p5.2 b0  p10 e_p10).1
        refine hp_callVv (As := []) (rest := []) cx hw ((kc_X10_findNumber l D cA E _ ad _ hj oq sgq sgv hE n p5.2 b0  p10 e_p10).2) (cwV 0 cx.2.2.2.2.2.1 (cd_giV cm_1085 cm_1086 cm_1087 cm_301 cm_1088) rfl rfl rfl hdc_X10_findNumber ⟨Nat.le_of_ble_eq_true rfl, Nat.le_of_ble_eq_true rfl⟩) (cd_atO hj (by decide) (by decide)) rfl rfl hl.1 rfl (Nat.le_of_ble_eq_true rfl) dX10_findWord_55 ⟨by (try dsimp only); omega, by (try dsimp only); omega⟩ (fun u H locs hp hw => ?_)
        obtain ⟨ca, hj, rfl⟩ := hp
        refine W.widen (k := b0.1 - p10.2.2.1) (n := b0.2 - p10.2.2.2) (by omega) (by omega) ?_
        refine lv_goto (tgt := 79) cx.1 cx.2.1 dX10_findWord_58 (by decide) ?_
        exact J79 _ hj p10.2.1 (p10.2.2) _ _ _ (by omega) (by omega) (by omega) (by omega) h hw (lv_sub hl [2] rfl)
    · have h := md_in c37 h
      refine lv_aload_n cx.1 cx.2.1 dX10_findWord_40 rfl (lv_at hl 2 rfl) ?_
      obtain ⟨p12, e_p12, h⟩ := md_ob h
      obtain ⟨hm13, hn13, h⟩ := cd_cks h
      have hM13 : p.2.2.1 ≤ p12.2.2.1 ∧ p.2.2.2 ≤ p12.2.2.2 := ⟨hm13, hn13⟩
      have hle12 := (kc_X10_findName l D cA E sz ad _ hj oq sgq sgv hE n p4.2 b0  p12 e_p12).1
      refine hp_callVv (As := []) (rest := []) cx hw ((kc_X10_findName l D cA E _ ad _ hj oq sgq sgv hE n p4.2 b0  p12 e_p12).2) (cwV 0 cx.2.2.2.2.2.1 (cd_giV cm_1089 cm_1090 cm_1091 cm_301 cm_1092) rfl rfl rfl hdc_X10_findName ⟨Nat.le_of_ble_eq_true rfl, Nat.le_of_ble_eq_true rfl⟩) (cd_atO hj (by decide) (by decide)) rfl rfl hl.1 rfl (Nat.le_of_ble_eq_true rfl) dX10_findWord_41 ⟨by (try dsimp only); omega, by (try dsimp only); omega⟩ (fun u H locs hp hw => ?_)
      obtain ⟨ca, hj, rfl⟩ := hp
      refine W.widen (k := b0.1 - p12.2.2.1) (n := b0.2 - p12.2.2.2) (by omega) (by omega) ?_
      refine lv_goto (tgt := 79) cx.1 cx.2.1 dX10_findWord_44 (by decide) ?_
      exact J79 _ hj p12.2.1 (p12.2.2) _ _ _ (by omega) (by omega) (by omega) (by omega) h hw (lv_sub hl [2] rfl)
  · have h := md_ip c20 h
    refine lv_aload_n cx.1 cx.2.1 dX10_findWord_23 rfl (lv_at hl 2 rfl) ?_
    refine lv_iconst (v := 0) cx.1 cx.2.1 dX10_findWord_24 (by decide) ?_
    refine lv_iload_n cx.1 cx.2.1 dX10_findWord_25 rfl (lv_at hl 1 rfl) ?_
    refine lv_lconst (v := 0) cx.1 cx.2.1 dX10_findWord_26 (by decide) ?_
    obtain ⟨p14, e_p14, h⟩ := md_ob h
    obtain ⟨hm15, hn15, h⟩ := cd_cks h
    have hM15 : p.2.2.1 ≤ p14.2.2.1 ∧ p.2.2.2 ≤ p14.2.2.2 := ⟨hm15, hn15⟩
    have hle14 := (kc_X10_addWord l D cA E sz ad _ hj oq sgq sgv hE n p3.2 b0 (0 : Int32) ((cI p2.2 326 0)) (0 : Int64) p14 e_p14).1
    refine hp_callVv (As := [.int 0, .int (cI p2.2 326 0), .long 0]) (rest := []) cx hw ((kc_X10_addWord l D cA E _ ad _ hj oq sgq sgv hE n p3.2 b0 (0 : Int32) ((cI p2.2 326 0)) (0 : Int64) p14 e_p14).2) (cwV 3 cx.2.2.2.2.2.1 (cd_giV cm_1054 cm_1055 cm_1056 cm_301 cm_1057) rfl rfl rfl hdc_X10_addWord ⟨Nat.le_of_ble_eq_true rfl, Nat.le_of_ble_eq_true rfl⟩) (cd_atO hj (by decide) (by decide)) rfl rfl hl.1 rfl (Nat.le_of_ble_eq_true rfl) dX10_findWord_27 ⟨by (try dsimp only); omega, by (try dsimp only); omega⟩ (fun u H locs hp hw => ?_)
    obtain ⟨ca, hj, rfl⟩ := hp
    refine W.widen (k := b0.1 - p14.2.2.1) (n := b0.2 - p14.2.2.2) (by omega) (by omega) ?_
    refine lv_goto (tgt := 79) cx.1 cx.2.1 dX10_findWord_30 (by decide) ?_
    exact J79 _ hj p14.2.1 (p14.2.2) _ _ _ (by omega) (by omega) (by omega) (by omega) h hw (lv_sub hl [2] rfl)
