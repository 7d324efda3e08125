def lk_Lp : List Cond := [Cond.methodLink RL 7 yX11_program, Cond.instanceMethod yX11_program, Cond.selects RX11 yX11_program yX11_program, Cond.initialized RX11, Cond.classLink RL 13 "java/lang/IllegalArgumentException"]
def v_Lprogram : List Cond := .codeWith yL_program cL_program 3 (some .int) [(0, 8, 11, 13)] :: (lk_Lp ++ (Cond.code yX11_program cX11_program 3 (some .int) :: v_CLS))
theorem gd_v_Lprogram : ∀ w ∈ v_Lprogram, gdW w := fun w h => (List.mem_cons.mp h).elim (fun e => by rw [e]; exact good_of_word rfl) (fun h => (List.mem_append.mp h).elim (fun h => good_of_word (List.all_eq_true.mp (by decide +kernel : lk_Lp.all goodWord = true) w h)) (fun h => (List.mem_cons.mp h).elim (fun e => by rw [e]; exact good_of_word rfl) (gd_CLS w)))
theorem v_Lprogram_at (i : Nat) {w : Cond} (h : lk_Lp[i]? = some w) : w ∈ v_Lprogram := List.mem_cons_of_mem _ (List.mem_append_left _ (List.mem_of_getElem? h))
theorem g_v_Lprogram : GoodIn v_Lprogram (wsV RL 7 RX11 yX11_program (Cond.code yX11_program cX11_program 3 (some .int) :: v_CLS)) := goodIn_app (fun w h => (fun h => (List.mem_cons.mp h).elim (fun e => by rw [e]; exact ⟨v_Lprogram_at 0 rfl, good_of_word rfl⟩) (fun h => (List.mem_cons.mp h).elim (fun e => by rw [e]; exact ⟨v_Lprogram_at 1 rfl, good_of_word rfl⟩) (fun h => (List.mem_cons.mp h).elim (fun e => by rw [e]; exact ⟨v_Lprogram_at 2 rfl, good_of_word rfl⟩) (fun h => (List.mem_cons.mp h).elim (fun e => by rw [e]; exact ⟨v_Lprogram_at 3 rfl, good_of_word rfl⟩) (fun h => nomatch h))))) h) (fun w h => ⟨List.mem_cons_of_mem _ (List.mem_append_right _ h), (List.mem_cons.mp h).elim (fun e => by rw [e]; exact good_of_word rfl) (gd_CLS w)⟩)
def lk_Lr : List Cond := [Cond.methodLink RL 15 yX11_run, Cond.instanceMethod yX11_run, Cond.selects RX11 yX11_run yX11_run, Cond.initialized RX11, Cond.classLink RL 19 "java/lang/IllegalStateException", Cond.classLink RL 13 "java/lang/IllegalArgumentException"]
def v_Lrun : List Cond := .codeWith yL_run cL_run 7 (some .int) [(0, 14, 17, 19), (0, 14, 21, 13)] :: (lk_Lr ++ (Cond.code yX11_run cX11_run 6 (some .int) :: v_CLS))
theorem gd_v_Lrun : ∀ w ∈ v_Lrun, gdW w := fun w h => (List.mem_cons.mp h).elim (fun e => by rw [e]; exact good_of_word rfl) (fun h => (List.mem_append.mp h).elim (fun h => good_of_word (List.all_eq_true.mp (by decide +kernel : lk_Lr.all goodWord = true) w h)) (fun h => (List.mem_cons.mp h).elim (fun e => by rw [e]; exact good_of_word rfl) (gd_CLS w)))
theorem v_Lrun_at (i : Nat) {w : Cond} (h : lk_Lr[i]? = some w) : w ∈ v_Lrun := List.mem_cons_of_mem _ (List.mem_append_left _ (List.mem_of_getElem? h))
theorem g_v_Lrun : GoodIn v_Lrun (wsV RL 15 RX11 yX11_run (Cond.code yX11_run cX11_run 6 (some .int) :: v_CLS)) := goodIn_app (fun w h => (fun h => (List.mem_cons.mp h).elim (fun e => by rw [e]; exact ⟨v_Lrun_at 0 rfl, good_of_word rfl⟩) (fun h => (List.mem_cons.mp h).elim (fun e => by rw [e]; exact ⟨v_Lrun_at 1 rfl, good_of_word rfl⟩) (fun h => (List.mem_cons.mp h).elim (fun e => by rw [e]; exact ⟨v_Lrun_at 2 rfl, good_of_word rfl⟩) (fun h => (List.mem_cons.mp h).elim (fun e => by rw [e]; exact ⟨v_Lrun_at 3 rfl, good_of_word rfl⟩) (fun h => nomatch h))))) h) (fun w h => ⟨List.mem_cons_of_mem _ (List.mem_append_right _ h), (List.mem_cons.mp h).elim (fun e => by rw [e]; exact good_of_word rfl) (gd_CLS w)⟩)
set_option maxHeartbeats 4000000 in
set_option maxRecDepth 100000 in
theorem k2_Lp_r (l : Launch) (D : va_G) (cA : Nat → ClassId) (E : hp_N) (sz : Nat) (g : hp_M) (ad : Nat → Nat → Nat) (ca : Nat → Nat) (hj : cd_inj ad ca) (oq sgq sgv : Nat) (hE : cd_E E oq sgq sgv) (n : Nat) (σ0 : cd_S) (b0 : cd_B) (p : Int32 × cd_S × cd_B) (h : f_X11_program n σ0 b0 = some (Sum.inl p)) (o : Nat) (f : Nat → Int64) (hs : ∀ a e, cd_pic cA ad ca σ0 a = some e → g a = some e) (hox : cd_pic cA ad ca σ0 o = none) (hgo : g o = some (.inl (cA 2, 1, .inr (.inl f)))) : Met l yL_program v_Lprogram ({ frames := 420, cells := b0.1 - p.2.2.1, slots := b0.2 - p.2.2.2, locals := 10800 }) (hp_Pc D vwCl (hp_Tl cA) E sz g [.ref (ad 11 0), .ref o]) (hp_Qi D vwCl (hp_Tl cA) sz g (fun r u => r = 0 ∧ ∃ (ca1 : Nat → Nat) (f1 : Nat → Int64), cd_inj ad ca1 ∧ (∀ a e, cd_pic cA ad ca1 p.2.1 a = some e → u a = some e) ∧ cd_pic cA ad ca1 p.2.1 o = none ∧ u o = some (.inl (cA 2, 1, .inr (.inl f1))) ∧ f1 0 = p.1.toInt64)) (b0.1 - p.2.2.1) (b0.2 - p.2.2.2) (hp_A g sz) := by
  refine hp_ofWH (cc := cL_program) (maxL := 3) (ret := (some .int)) (hh := [(0, 8, 11, 13)]) (by decide) rfl (Nat.le_of_ble_eq_true rfl) ?_
  intro pp ee ss mm bb mt cd ls cx hsz hw hl htab
  have hl : lv_has ls 3 [(0, .ref (ad 11 0)), (1, .ref o)] := hl
  refine lv_aload_n cx.1 cx.2.1 dL_program_0 rfl (lv_at hl 1 rfl) ?_
  refine lv_iconst (v := 0) cx.1 cx.2.1 dL_program_1 (by decide) ?_
  refine lv_aload_n cx.1 cx.2.1 dL_program_2 rfl (lv_at hl 0 rfl) ?_
  refine hp_callFj (g1 := cd_pic cA ad ca σ0) (As := []) (rest := [.int 0, .ref o]) cx hw hs (kc_X11_program l D cA E _ ad ca hj oq sgq sgv hE n σ0 b0 p h).2 (cwV 0 cx.2.2.2.2.2.1 g_v_Lprogram rfl rfl rfl (by decide +kernel) ⟨Nat.le_of_ble_eq_true rfl, Nat.le_of_ble_eq_true rfl⟩) (hs _ _ (cd_atO hj (by decide) (by decide))) rfl rfl hl.1 rfl (Nat.le_of_ble_eq_true rfl) dL_program_3 ⟨Nat.le_of_eq (Nat.zero_add _), Nat.le_of_eq (Nat.zero_add _)⟩ (fun r u g2 H locs hp a1 a2 a3 hw => ?_)
  obtain ⟨er, ca1, hj1, eu⟩ := hp
  have ho2 : g2 o = some (.inl (cA 2, 1, .inr (.inl f))) := a2 o _ hgo hox
  have hs2 : ∀ a e, cd_pic cA ad ca1 p.2.1 a = some e → g2 a = some e := fun a e q => a1 a e (by rw [eu]; exact q)
  have hn2 : cd_pic cA ad ca1 p.2.1 o = none := by
    cases q : cd_pic cA ad ca1 p.2.1 o with
    | none => rfl
    | some e =>
      have := a3 o e (by rw [eu]; exact q) hox
      rw [hgo] at this
      cases this
  refine lv_i2l (v := r.toInt64) cx.1 cx.2.1 dL_program_6 rfl ?_
  refine hp_last cx hw 2 ho2 rfl (by unfold vp_in; decide) dL_program_7 (fun g3 H locs eg3 hw => ?_)
  refine lv_goto (tgt := 14) cx.1 cx.2.1 dL_program_8 (by decide) ?_
  refine lv_iconst (v := 0) cx.1 cx.2.1 dL_program_14 (by decide) ?_
  exact hp_iret cx hw ⟨rfl, ca1, _, hj1, fun a e q => by rw [eg3]; exact (hp_up_ne _ _ (hp_neN q hn2)).trans (hs2 a e q), hn2, by rw [eg3]; exact hp_up_self _ _ _, by rw [← er]; exact pk_uLs⟩ dL_program_15
set_option maxHeartbeats 4000000 in
set_option maxRecDepth 100000 in
theorem k2_Lp_x (l : Launch) (D : va_G) (cA : Nat → ClassId) (E : hp_N) (sz : Nat) (g : hp_M) (ad : Nat → Nat → Nat) (ca : Nat → Nat) (hj : cd_inj ad ca) (oq sgq sgv : Nat) (hE : cd_E E oq sgq sgv) (hX : cd_X l E) (n : Nat) (σ0 : cd_S) (b0 : cd_B) (p : cd_S × cd_B) (h : f_X11_program n σ0 b0 = some (Sum.inr p)) (o : Nat) (f : Nat → Int64) (hs : ∀ a e, cd_pic cA ad ca σ0 a = some e → g a = some e) (hox : cd_pic cA ad ca σ0 o = none) (hgo : g o = some (.inl (cA 2, 1, .inr (.inl f)))) : Met l yL_program v_Lprogram ({ frames := 420, cells := b0.1 - p.2.1, slots := b0.2 - p.2.2, locals := 10800 }) (hp_Pc D vwCl (hp_Tl cA) E sz g [.ref (ad 11 0), .ref o]) (hp_Qi D vwCl (hp_Tl cA) sz g (fun r u => r = 1 ∧ ∃ (ca1 : Nat → Nat) (f1 : Nat → Int64), cd_inj ad ca1 ∧ (∀ a e, cd_pic cA ad ca1 p.1 a = some e → u a = some e) ∧ cd_pic cA ad ca1 p.1 o = none ∧ u o = some (.inl (cA 2, 1, .inr (.inl f1))))) (b0.1 - p.2.1) (b0.2 - p.2.2) (hp_A g sz) := by
  refine hp_ofWH (cc := cL_program) (maxL := 3) (ret := (some .int)) (hh := [(0, 8, 11, 13)]) (by decide) rfl (Nat.le_of_ble_eq_true rfl) ?_
  intro pp ee ss mm bb mt cd ls cx hsz hw hl htab
  have hl : lv_has ls 3 [(0, .ref (ad 11 0)), (1, .ref o)] := hl
  refine lv_aload_n cx.1 cx.2.1 dL_program_0 rfl (lv_at hl 1 rfl) ?_
  refine lv_iconst (v := 0) cx.1 cx.2.1 dL_program_1 (by decide) ?_
  refine lv_aload_n cx.1 cx.2.1 dL_program_2 rfl (lv_at hl 0 rfl) ?_
  refine hp_callCF (g1 := cd_pic cA ad ca σ0) (As := []) (rest := [.int 0, .ref o]) cx hw hs (kx_X11_program l D cA E _ ad ca hj oq sgq sgv hE hX n σ0 b0 p h).2 (cwV 0 cx.2.2.2.2.2.1 g_v_Lprogram rfl rfl rfl (by decide +kernel) ⟨Nat.le_of_ble_eq_true rfl, Nat.le_of_ble_eq_true rfl⟩) (hs _ _ (cd_atO hj (by decide) (by decide))) rfl rfl hl.1 rfl (Nat.le_of_ble_eq_true rfl) dL_program_3 ⟨Nat.le_of_eq (Nat.zero_add _), Nat.le_of_eq (Nat.zero_add _)⟩ [] _ _ htab (fun z h => nomatch h) (by decide) (by decide) (v_Lprogram_at 4 rfl) (va_any rfl (hX.2.1 _ _ _ hw.2.2.2.2.2).1) (fun q9 u g2 H locs hp a1 a2 a3 hw => ?_)
  obtain ⟨ca1, hj1, eu⟩ := hp
  have ho2 : g2 o = some (.inl (cA 2, 1, .inr (.inl f))) := a2 o _ hgo hox
  have hs2 : ∀ a e, cd_pic cA ad ca1 p.1 a = some e → g2 a = some e := fun a e q => a1 a e (by rw [eu]; exact q)
  have hn2 : cd_pic cA ad ca1 p.1 o = none := by
    cases q : cd_pic cA ad ca1 p.1 o with
    | none => rfl
    | some e =>
      have := a3 o e (by rw [eu]; exact q) hox
      rw [hgo] at this
      cases this
  refine W.eq (g2 := F0 mm 11 ls [.ref q9]) rfl ?_
  refine lv_astore_n (lv' := [(2, .ref q9), (0, .ref (ad 11 0)), (1, .ref o)]) cx.1 cx.2.1 dL_program_11 rfl hl (by decide) rfl (fun ls hl => ?_)
  refine lv_iconst (v := 1) cx.1 cx.2.1 dL_program_12 (by decide) ?_
  exact hp_iret cx hw ⟨rfl, ca1, f, hj1, hs2, hn2, ho2⟩ dL_program_13
set_option maxHeartbeats 4000000 in
set_option maxRecDepth 100000 in
theorem k2_Lr_r (l : Launch) (D : va_G) (cA : Nat → ClassId) (E : hp_N) (sz : Nat) (g : hp_M) (ad : Nat → Nat → Nat) (ca : Nat → Nat) (hj : cd_inj ad ca) (oq sgq sgv : Nat) (hE : cd_E E oq sgq sgv) (n : Nat) (σ0 : cd_S) (b0 : cd_B) (x1 x2 x3 x4 : Int32) (p : Int32 × cd_S × cd_B) (h : f_X11_run n σ0 b0 x1 x2 x3 x4 = some (Sum.inl p)) (o : Nat) (f : Nat → Int64) (hs : ∀ a e, cd_pic cA ad ca σ0 a = some e → g a = some e) (hox : cd_pic cA ad ca σ0 o = none) (hgo : g o = some (.inl (cA 2, 1, .inr (.inl f)))) : Met l yL_run v_Lrun ({ frames := 13, cells := b0.1 - p.2.2.1, slots := b0.2 - p.2.2.2, locals := 300 }) (hp_Pc D vwCl (hp_Tl cA) E sz g [.ref (ad 11 0), .int x1, .int x2, .int x3, .int x4, .ref o]) (hp_Qi D vwCl (hp_Tl cA) sz g (fun r u => r = 0 ∧ ∃ (ca1 : Nat → Nat) (f1 : Nat → Int64), cd_inj ad ca1 ∧ (∀ a e, cd_pic cA ad ca1 p.2.1 a = some e → u a = some e) ∧ cd_pic cA ad ca1 p.2.1 o = none ∧ u o = some (.inl (cA 2, 1, .inr (.inl f1))) ∧ f1 0 = p.1.toInt64)) (b0.1 - p.2.2.1) (b0.2 - p.2.2.2) (hp_A g sz) := by
  refine hp_ofWH (cc := cL_run) (maxL := 7) (ret := (some .int)) (hh := [(0, 14, 17, 19), (0, 14, 21, 13)]) (by decide) rfl (Nat.le_of_ble_eq_true rfl) ?_
  intro pp ee ss mm bb mt cd ls cx hsz hw hl htab
  have hl : lv_has ls 7 [(0, .ref (ad 11 0)), (1, .int x1), (2, .int x2), (3, .int x3), (4, .int x4), (5, .ref o)] := hl
  refine lv_aload cx.1 cx.2.1 dL_run_0 (lv_at hl 5 rfl) ?_
  refine lv_iconst (v := 0) cx.1 cx.2.1 dL_run_2 (by decide) ?_
  refine lv_aload_n cx.1 cx.2.1 dL_run_3 rfl (lv_at hl 0 rfl) ?_
  refine lv_iload_n cx.1 cx.2.1 dL_run_4 rfl (lv_at hl 1 rfl) ?_
  refine lv_iload_n cx.1 cx.2.1 dL_run_5 rfl (lv_at hl 2 rfl) ?_
  refine lv_iload_n cx.1 cx.2.1 dL_run_6 rfl (lv_at hl 3 rfl) ?_
  refine lv_iload cx.1 cx.2.1 dL_run_7 (lv_at hl 4 rfl) ?_
  refine hp_callFj (g1 := cd_pic cA ad ca σ0) (As := [.int x1, .int x2, .int x3, .int x4]) (rest := [.int 0, .ref o]) cx hw hs (kc_X11_run l D cA E _ ad ca hj oq sgq sgv hE n σ0 b0 x1 x2 x3 x4 p h).2 (cwV 4 cx.2.2.2.2.2.1 g_v_Lrun rfl rfl rfl (by decide +kernel) ⟨Nat.le_of_ble_eq_true rfl, Nat.le_of_ble_eq_true rfl⟩) (hs _ _ (cd_atO hj (by decide) (by decide))) rfl rfl hl.1 rfl (Nat.le_of_ble_eq_true rfl) dL_run_9 ⟨Nat.le_of_eq (Nat.zero_add _), Nat.le_of_eq (Nat.zero_add _)⟩ (fun r u g2 H locs hp a1 a2 a3 hw => ?_)
  obtain ⟨er, ca1, hj1, eu⟩ := hp
  have ho2 : g2 o = some (.inl (cA 2, 1, .inr (.inl f))) := a2 o _ hgo hox
  have hs2 : ∀ a e, cd_pic cA ad ca1 p.2.1 a = some e → g2 a = some e := fun a e q => a1 a e (by rw [eu]; exact q)
  have hn2 : cd_pic cA ad ca1 p.2.1 o = none := by
    cases q : cd_pic cA ad ca1 p.2.1 o with
    | none => rfl
    | some e =>
      have := a3 o e (by rw [eu]; exact q) hox
      rw [hgo] at this
      cases this
  refine lv_i2l (v := r.toInt64) cx.1 cx.2.1 dL_run_12 rfl ?_
  refine hp_last cx hw 2 ho2 rfl (by unfold vp_in; decide) dL_run_13 (fun g3 H locs eg3 hw => ?_)
  refine lv_goto (tgt := 25) cx.1 cx.2.1 dL_run_14 (by decide) ?_
  refine lv_iconst (v := 0) cx.1 cx.2.1 dL_run_25 (by decide) ?_
  exact hp_iret cx hw ⟨rfl, ca1, _, hj1, fun a e q => by rw [eg3]; exact (hp_up_ne _ _ (hp_neN q hn2)).trans (hs2 a e q), hn2, by rw [eg3]; exact hp_up_self _ _ _, by rw [← er]; exact pk_uLs⟩ dL_run_26
set_option maxHeartbeats 4000000 in
set_option maxRecDepth 100000 in
theorem k2_Lr_1 (l : Launch) (D : va_G) (cA : Nat → ClassId) (E : hp_N) (sz : Nat) (g : hp_M) (ad : Nat → Nat → Nat) (ca : Nat → Nat) (hj : cd_inj ad ca) (oq sgq sgv : Nat) (hE : cd_E E oq sgq sgv) (hX : cd_Y l E) (n : Nat) (σ0 : cd_S) (b0 : cd_B) (x1 x2 x3 x4 : Int32) (p : cd_S × cd_B) (h : f_X11_run n σ0 b0 x1 x2 x3 x4 = some (Sum.inr (1, p))) (o : Nat) (f : Nat → Int64) (hs : ∀ a e, cd_pic cA ad ca σ0 a = some e → g a = some e) (hox : cd_pic cA ad ca σ0 o = none) (hgo : g o = some (.inl (cA 2, 1, .inr (.inl f)))) : Met l yL_run v_Lrun ({ frames := 13, cells := b0.1 - p.2.1, slots := b0.2 - p.2.2, locals := 300 }) (hp_Pc D vwCl (hp_Tl cA) E sz g [.ref (ad 11 0), .int x1, .int x2, .int x3, .int x4, .ref o]) (hp_Qi D vwCl (hp_Tl cA) sz g (fun r u => r = 1 ∧ ∃ (ca1 : Nat → Nat) (f1 : Nat → Int64), cd_inj ad ca1 ∧ (∀ a e, cd_pic cA ad ca1 p.1 a = some e → u a = some e) ∧ cd_pic cA ad ca1 p.1 o = none ∧ u o = some (.inl (cA 2, 1, .inr (.inl f1))))) (b0.1 - p.2.1) (b0.2 - p.2.2) (hp_A g sz) := by
  refine hp_ofWH (cc := cL_run) (maxL := 7) (ret := (some .int)) (hh := [(0, 14, 17, 19), (0, 14, 21, 13)]) (by decide) rfl (Nat.le_of_ble_eq_true rfl) ?_
  intro pp ee ss mm bb mt cd ls cx hsz hw hl htab
  have hl : lv_has ls 7 [(0, .ref (ad 11 0)), (1, .int x1), (2, .int x2), (3, .int x3), (4, .int x4), (5, .ref o)] := hl
  refine lv_aload cx.1 cx.2.1 dL_run_0 (lv_at hl 5 rfl) ?_
  refine lv_iconst (v := 0) cx.1 cx.2.1 dL_run_2 (by decide) ?_
  refine lv_aload_n cx.1 cx.2.1 dL_run_3 rfl (lv_at hl 0 rfl) ?_
  refine lv_iload_n cx.1 cx.2.1 dL_run_4 rfl (lv_at hl 1 rfl) ?_
  refine lv_iload_n cx.1 cx.2.1 dL_run_5 rfl (lv_at hl 2 rfl) ?_
  refine lv_iload_n cx.1 cx.2.1 dL_run_6 rfl (lv_at hl 3 rfl) ?_
  refine lv_iload cx.1 cx.2.1 dL_run_7 (lv_at hl 4 rfl) ?_
  refine hp_callCF (g1 := cd_pic cA ad ca σ0) (As := [.int x1, .int x2, .int x3, .int x4]) (rest := [.int 0, .ref o]) cx hw hs (ky_X11_run l D cA E _ ad ca hj oq sgq sgv hE hX n σ0 b0 x1 x2 x3 x4 p h).2 (cwV 4 cx.2.2.2.2.2.1 g_v_Lrun rfl rfl rfl (by decide +kernel) ⟨Nat.le_of_ble_eq_true rfl, Nat.le_of_ble_eq_true rfl⟩) (hs _ _ (cd_atO hj (by decide) (by decide))) rfl rfl hl.1 rfl (Nat.le_of_ble_eq_true rfl) dL_run_9 ⟨Nat.le_of_eq (Nat.zero_add _), Nat.le_of_eq (Nat.zero_add _)⟩ [] _ _ htab (fun z h => nomatch h) (by decide) (by decide) (v_Lrun_at 4 rfl) (va_any rfl (hX.2.2.1 _ _ _ hw.2.2.2.2.2).1) (fun q9 u g2 H locs hp a1 a2 a3 hw => ?_)
  obtain ⟨ca1, hj1, eu⟩ := hp
  have ho2 : g2 o = some (.inl (cA 2, 1, .inr (.inl f))) := a2 o _ hgo hox
  have hs2 : ∀ a e, cd_pic cA ad ca1 p.1 a = some e → g2 a = some e := fun a e q => a1 a e (by rw [eu]; exact q)
  have hn2 : cd_pic cA ad ca1 p.1 o = none := by
    cases q : cd_pic cA ad ca1 p.1 o with
    | none => rfl
    | some e =>
      have := a3 o e (by rw [eu]; exact q) hox
      rw [hgo] at this
      cases this
  refine W.eq (g2 := F0 mm 17 ls [.ref q9]) rfl ?_
  refine lv_astore (lv' := [(6, .ref q9), (0, .ref (ad 11 0)), (1, .int x1), (2, .int x2), (3, .int x3), (4, .int x4), (5, .ref o)]) cx.1 cx.2.1 dL_run_17 hl (by decide) rfl (fun ls hl => ?_)
  refine lv_iconst (v := 1) cx.1 cx.2.1 dL_run_19 (by decide) ?_
  exact hp_iret cx hw ⟨rfl, ca1, f, hj1, hs2, hn2, ho2⟩ dL_run_20
set_option maxHeartbeats 4000000 in
set_option maxRecDepth 100000 in
theorem k2_Lr_2 (l : Launch) (D : va_G) (cA : Nat → ClassId) (E : hp_N) (sz : Nat) (g : hp_M) (ad : Nat → Nat → Nat) (ca : Nat → Nat) (hj : cd_inj ad ca) (oq sgq sgv : Nat) (hE : cd_E E oq sgq sgv) (hX : cd_Y l E) (hnc : ∀ A U H, E A U H → va_Nc "java/lang/IllegalArgumentException" "java/lang/IllegalStateException" U) (n : Nat) (σ0 : cd_S) (b0 : cd_B) (x1 x2 x3 x4 : Int32) (p : cd_S × cd_B) (h : f_X11_run n σ0 b0 x1 x2 x3 x4 = some (Sum.inr (2, p))) (o : Nat) (f : Nat → Int64) (hs : ∀ a e, cd_pic cA ad ca σ0 a = some e → g a = some e) (hox : cd_pic cA ad ca σ0 o = none) (hgo : g o = some (.inl (cA 2, 1, .inr (.inl f)))) : Met l yL_run v_Lrun ({ frames := 13, cells := b0.1 - p.2.1, slots := b0.2 - p.2.2, locals := 300 }) (hp_Pc D vwCl (hp_Tl cA) E sz g [.ref (ad 11 0), .int x1, .int x2, .int x3, .int x4, .ref o]) (hp_Qi D vwCl (hp_Tl cA) sz g (fun r u => r = 2 ∧ ∃ (ca1 : Nat → Nat) (f1 : Nat → Int64), cd_inj ad ca1 ∧ (∀ a e, cd_pic cA ad ca1 p.1 a = some e → u a = some e) ∧ cd_pic cA ad ca1 p.1 o = none ∧ u o = some (.inl (cA 2, 1, .inr (.inl f1))))) (b0.1 - p.2.1) (b0.2 - p.2.2) (hp_A g sz) := by
  refine hp_ofWH (cc := cL_run) (maxL := 7) (ret := (some .int)) (hh := [(0, 14, 17, 19), (0, 14, 21, 13)]) (by decide) rfl (Nat.le_of_ble_eq_true rfl) ?_
  intro pp ee ss mm bb mt cd ls cx hsz hw hl htab
  have hl : lv_has ls 7 [(0, .ref (ad 11 0)), (1, .int x1), (2, .int x2), (3, .int x3), (4, .int x4), (5, .ref o)] := hl
  refine lv_aload cx.1 cx.2.1 dL_run_0 (lv_at hl 5 rfl) ?_
  refine lv_iconst (v := 0) cx.1 cx.2.1 dL_run_2 (by decide) ?_
  refine lv_aload_n cx.1 cx.2.1 dL_run_3 rfl (lv_at hl 0 rfl) ?_
  refine lv_iload_n cx.1 cx.2.1 dL_run_4 rfl (lv_at hl 1 rfl) ?_
  refine lv_iload_n cx.1 cx.2.1 dL_run_5 rfl (lv_at hl 2 rfl) ?_
  refine lv_iload_n cx.1 cx.2.1 dL_run_6 rfl (lv_at hl 3 rfl) ?_
  refine lv_iload cx.1 cx.2.1 dL_run_7 (lv_at hl 4 rfl) ?_
  have hcs : (Cond.classLink RL 19 "java/lang/IllegalStateException").before _ _ = true := cx.2.2.2.2.2.1 _ (v_Lrun_at 4 rfl)
  have hnn := hnc _ _ _ hw.2.2.2.2.2
  refine hp_callCF (g1 := cd_pic cA ad ca σ0) (As := [.int x1, .int x2, .int x3, .int x4]) (rest := [.int 0, .ref o]) cx hw hs (kx_X11_run l D cA E _ ad ca hj oq sgq sgv hE hX n σ0 b0 x1 x2 x3 x4 p h).2 (cwV 4 cx.2.2.2.2.2.1 g_v_Lrun rfl rfl rfl (by decide +kernel) ⟨Nat.le_of_ble_eq_true rfl, Nat.le_of_ble_eq_true rfl⟩) (hs _ _ (cd_atO hj (by decide) (by decide))) rfl rfl hl.1 rfl (Nat.le_of_ble_eq_true rfl) dL_run_9 ⟨Nat.le_of_eq (Nat.zero_add _), Nat.le_of_eq (Nat.zero_add _)⟩ (tableOf [(0, 14, 17, 19)]) _ _ htab (fun z hz => by
    have hz : z = (tableOf [(0, 14, 17, 19)])[0] := by simpa [tableOf] using hz
    rw [hz]
    exact Or.inr ⟨by decide, _, hcs, hnn⟩) (by decide) (by decide) (v_Lrun_at 5 rfl) (va_any rfl (hX.2.1 _ _ _ hw.2.2.2.2.2).1) (fun q9 u g2 H locs hp a1 a2 a3 hw => ?_)
  obtain ⟨ca1, hj1, eu⟩ := hp
  have ho2 : g2 o = some (.inl (cA 2, 1, .inr (.inl f))) := a2 o _ hgo hox
  have hs2 : ∀ a e, cd_pic cA ad ca1 p.1 a = some e → g2 a = some e := fun a e q => a1 a e (by rw [eu]; exact q)
  have hn2 : cd_pic cA ad ca1 p.1 o = none := by
    cases q : cd_pic cA ad ca1 p.1 o with
    | none => rfl
    | some e =>
      have := a3 o e (by rw [eu]; exact q) hox
      rw [hgo] at this
      cases this
  refine W.eq (g2 := F0 mm 21 ls [.ref q9]) rfl ?_
  refine lv_astore (lv' := [(6, .ref q9), (0, .ref (ad 11 0)), (1, .int x1), (2, .int x2), (3, .int x3), (4, .int x4), (5, .ref o)]) cx.1 cx.2.1 dL_run_21 hl (by decide) rfl (fun ls hl => ?_)
  refine lv_iconst (v := 2) cx.1 cx.2.1 dL_run_23 (by decide) ?_
  exact hp_iret cx hw ⟨rfl, ca1, f, hj1, hs2, hn2, ho2⟩ dL_run_24
