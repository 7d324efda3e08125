theorem hp_is0 {D : va_G} {cl : List vw_C} {A : Nat → Prop} {H : Heap} : hp_is D cl A hp_0 H := ⟨[], fun _ => .inr (0, []), fun _ => by simp [hp_0], fun k q h => by simp [va_pl] at h, fun i j p q h => by simp [va_pl] at h, fun k q h => by simp [va_pl] at h⟩
theorem hp_ofWH {l : Launch} {y : MethodName} {ws ws' : List Cond} {rm : Room} {D : va_G} {cl : List vw_C} {tys : List (ClassId × FieldType)} {E : hp_N} {sz : Nat} {g : hp_M} {as : List Value} {Qc : Array Value → State → Outcome → State → Prop} {mc ms : Nat} {cc : ByteArray} {maxL : Nat} {ret : Option FieldType} {hh : List (Nat × Nat × Nat × Nat)}
    (hy : plainName y.cls = true) (hw : ws = Cond.codeWith y cc maxL ret hh :: ws') (hlen : (lg_sl as).length ≤ maxL)
    (body : ∀ (p : Program) (e : Env) (s : State) (m : MethodId) (below : List Frame) (meth : Method) (c : Code) (ls : Array Slot), hp_C p c cc meth ret maxL s m as.toArray y ws → s.heap.size = sz → hp_w D cl tys E (hp_A g sz) s s.heap [] g → lv_has ls maxL (lv_args 0 as) → c.exceptionTable.toList = tableOf hh →
      W p l e rm s m as.toArray below meth c s.heap [] 0 0 (MQ below Qc as.toArray s mc ms (hp_A g sz)) (F0 m 0 ls [])) : Met l y ws rm (hp_Pc D cl tys E sz g as) Qc mc ms (hp_A g sz) := by
  refine va_MetW (cc := cc) (maxL := maxL) (ret := ret) hy hw ?_
  intro p e s m args below meth c s₁ B hml hv
  obtain ⟨rfl, hsz, ⟨hP, hK⟩, hG, hE⟩ := hv
  have hn := name_of_methodNamed B.named B.method
  have hl := lv_entry as (n := maxL) hlen
  have hts := atoms_spec (ws := ws) B.pre
  rw [lg_entry_eq]
  exact body p e s m below meth c _ ⟨B.exec, B.bytes, B.returns, hml, findClass_of_methodNamed B.named, hts, B.notSynchronized, hn.1⟩ hsz ⟨hp_self hP, va_S.rf, hK, fun q h => Or.inr (by rw [← hsz]; exact h), hG, hE⟩ hl (vx_table (x := y) B (hts _ (by rw [hw]; exact List.mem_cons_self)))
section HCt
variable {p : Program} {l : Launch} {e : Env} {R : Room} {s : State} {m : MethodId} {args : Array Value} {below : List Frame} {meth : Method} {c : Code} {H : Heap} {locs : List Loc} {cells slots : Nat} {Q : State → Prop}
variable {cc : ByteArray} {ret : Option FieldType} {maxL : Nat} {y : MethodName} {Ts : List Cond} {pc : Nat} {ls : Array Slot} {rest st0 : List Value} {D : va_G} {cl : List vw_C} {E : hp_N} {A : Nat → Prop} {tys : List (ClassId × FieldType)} {g g1 : hp_M}
variable {y1 : MethodName} {bytes : ByteArray} {maxL1 mc ms n index b : Nat} {ret1 : Option FieldType} {ws : List Cond} {rm : Room} {As : List Value} {C : String}
/-- a call that throws, caught here: nothing of the picture is known behind it -/
theorem hp_callC (cx : hp_C p c cc meth ret maxL s m args y Ts) (hw : hp_w D cl tys E A s H locs g) {X : String} (hM : vx_Met l y1 ws rm (hp_Pc D cl tys E H.size g (.ref b :: As)) (hp_Qi D cl tys H.size g (fun _ _ => False)) (hp_XC X g H.size) mc ms (hp_A g H.size)) (cw : CallW R s args y.cls C index y1 bytes maxL1 ret1 ws rm mc ms n) {ci : Nat} {fs : List Value} {T : u_T} {N : Nat} (hg : g b = some (.inr (ci, fs))) (hc : cl[ci]? = some (C, T, N)) (hn : As.length = n) (hsz : ls.size = maxL) (hst : st0 = As.reverse ++ .ref b :: rest) (hW : (rest.map fun v => v.category).sum ≤ 8) (hdg : decode cc pc = .ok (.invokevirtual index, 3)) (hf : cells + mc ≤ R.cells ∧ slots + ms ≤ R.slots)
    (x : ExceptionTableEntry) (suf : List ExceptionTableEntry) (htab : c.exceptionTable.toList = x :: suf) (hcov : covers x pc = true) (h0 : x.catchType ≠ 0) (hlink : Cond.classLink y.cls x.catchType X ∈ Ts) (hcast : (Cond.castable X X).before args s = true)
    (kk : ∀ (q9 : Nat) (H1 : Heap) (locs1 : List Loc), hp_w D cl tys E A s H1 locs1 hp_0 → W p l e R s m args below meth c H1 locs1 (cells + mc) (slots + ms) Q (F0 m x.handlerPc ls [.ref q9])) : W p l e R s m args below meth c H locs cells slots Q (F0 m pc ls st0) := by
  obtain ⟨hx, hb, hr, hml, hown, hts, hlk, hnm⟩ := id cx
  exact vx_calli (vx_runV (As := As) (rest := rest) ⟨hx, hb, hml, hown, hts⟩ hM cw ⟨hp_blind, hp_recv hw hg hc, hp_pre hw _⟩ rfl hn hsz hst (by simpa [F0] using hW) hdg hf) hw.2.1 (fun q _ h => hp_sub hw q h) (hp_sub hw) (fun q _ h => hp_sub hw q h) (fun E9 ce q9 u t H1 locs1 ht hvm hp hB hz hk hS a1 a2 a3 => by
    have hB : E9 = X := hB
    subst hB
    exact vx_catch hown [] x suf htab (fun z h => nomatch h) hcov h0 (hts _ hlink) hcast a1 a2 a3 (kk q9 H1 locs1 ⟨hp_is0, hS, hw.2.2.1, hw.2.2.2⟩)) (fun r u t H1 locs1 ht hvm hp hB hz hk hS => hp.elim)
/-- a static call of a method with a table; a part of the picture -/
theorem hp_callFW (cx : hp_C p c cc meth ret maxL s m args y Ts) (hw : hp_w D cl tys E A s H locs g) (hsub : ∀ a e, g1 a = some e → g a = some e) {post : Int32 → hp_M → Prop} (hM : Met l y1 ws rm (hp_Pc D cl tys E H.size g1 As) (hp_Qi D cl tys H.size g1 post) mc ms (hp_A g1 H.size)) {hh : List (Nat × Nat × Nat × Nat)} (cw : vx_CSW R s args y.cls index y1 bytes maxL1 ret1 hh ws rm mc ms n) (hn : As.length = n) (hsz : ls.size = maxL) (hst : st0 = As.reverse ++ rest) (hW : (rest.map fun v => v.category).sum ≤ 8) (hdg : decode cc pc = .ok (.invokestatic index, 3)) (hf : cells + mc ≤ R.cells ∧ slots + ms ≤ R.slots)
    (kk : ∀ (r : Int32) (u g2 : hp_M) (H1 : Heap) (locs1 : List Loc), post r u → (∀ a e, u a = some e → g2 a = some e) → (∀ a e, g a = some e → g1 a = none → g2 a = some e) → hp_w D cl tys E A s H1 locs1 g2 → W p l e R s m args below meth c H1 locs1 (cells + mc) (slots + ms) Q (F0 m (pc + 3) ls (.int r :: rest))) : W p l e R s m args below meth c H locs cells slots Q (F0 m pc ls st0) := by
  obtain ⟨hx, hb, hr, hml, hown, hts, hlk, hnm⟩ := cx
  exact va_calli (vx_runSW (As := As) (rest := rest) ⟨hx, hb, hml, hown, hts⟩ hM cw ⟨hp_blind, hp_preF hw hsub _⟩ rfl hn hsz hst (by simpa [F0] using hW) hdg hf) hw.2.1 (fun q _ h => hp_subF hw hsub q h) (hp_subF hw hsub) (fun r u t H1 locs1 ht hvm hp hB hz hk hS => by
    have hu : hp_is D cl (hp_A g1 H.size) u H1 := by rw [← ht]; exact hB.1
    obtain ⟨a1, a2⟩ := hp_overlay hw hsub hu hk hS
    exact kk r u _ H1 locs1 hp (fun a e h => hp_ov_u h) a2 a1)
end HCt
/-! the law's two helpers, on a new object: each catches, and answers 1 -/
def lk_Lp : List Cond := [Cond.methodLink RL 7 yX11_program, Cond.instanceMethod yX11_program, Cond.selects RX11 yX11_program yX11_program, Cond.initialized RX11, Cond.classLink RL 13 "java/lang/IllegalArgumentException"]
def v_Lprogram : List Cond := .codeWith yL_program cL_program 3 (some .int) [(0, 8, 11, 13)] :: (lk_Lp ++ (v_x_program ++ []))
theorem gd_v_Lprogram : ∀ w ∈ v_Lprogram, gdW w := fun w h => (List.mem_cons.mp h).elim (fun e => by rw [e]; exact good_of_word rfl) (fun h => (List.mem_append.mp h).elim (fun h => good_of_word (List.all_eq_true.mp (by decide +kernel : lk_Lp.all goodWord = true) w h)) (fun h => (List.mem_append.mp h).elim (gd_v_x_program w) (fun h => nomatch h)))
theorem lkLp (i : Nat) {w : Cond} (h : lk_Lp[i]? = some w) : w ∈ v_Lprogram := List.mem_cons_of_mem _ (List.mem_append_left _ (List.mem_of_getElem? h))
theorem g_Lprogram : GoodIn v_Lprogram (wsV RL 7 RX11 yX11_program v_x_program) := goodIn_app (fun w h => (fun h => (List.mem_cons.mp h).elim (fun e => by rw [e]; exact ⟨lkLp 0 rfl, good_of_word rfl⟩) (fun h => (List.mem_cons.mp h).elim (fun e => by rw [e]; exact ⟨lkLp 1 rfl, good_of_word rfl⟩) (fun h => (List.mem_cons.mp h).elim (fun e => by rw [e]; exact ⟨lkLp 2 rfl, good_of_word rfl⟩) (fun h => (List.mem_cons.mp h).elim (fun e => by rw [e]; exact ⟨lkLp 3 rfl, good_of_word rfl⟩) (fun h => nomatch h))))) h) (fun w h => ⟨List.mem_cons_of_mem _ (List.mem_append_right _ (List.mem_append_left _ h)), gd_v_x_program w h⟩)
set_option maxHeartbeats 4000000 in
set_option maxRecDepth 100000 in
theorem k_Lprogram (l : Launch) (D : va_G) (cA : Nat → ClassId) (E : hp_N) (sz : Nat) (g : hp_M) (hst : l.stackTraces = false) (hth : st_thr E "java/lang/IllegalArgumentException") (sr : Nat) (hsr : ∀ A U H, E A U H → vk_R "WardenHouse$Reader" 87 "the text has a fault" sr U) (h o : Nat) (hf : fr_House cA g h) : Met l yL_program v_Lprogram ({ frames := 10, cells := 1, slots := 6, locals := 200 }) (hp_Pc D vwCl (hp_Tl cA) E sz g [.ref h, .ref o]) (hp_Qi D vwCl (hp_Tl cA) sz g (fun r _ => r = 1)) 1 6 (hp_A g sz) := by
  refine hp_ofWH (cc := cL_program) (maxL := 3) (ret := (some .int)) (hh := [(0, 8, 11, 13)]) (by decide) rfl (Nat.le_of_ble_eq_true rfl) ?_
  intro pp ee ss mm bb mt cd ls cx hsz hw hl htab
  have hl : lv_has ls 3 [(0, .ref h), (1, .ref o)] := hl
  obtain ⟨a, hh, -⟩ := id hf
  refine lv_aload_n cx.1 cx.2.1 dL_program_0 rfl (lv_at hl 1 rfl) ?_
  refine lv_iconst (v := 0) cx.1 cx.2.1 dL_program_1 (by decide) ?_
  refine lv_aload_n cx.1 cx.2.1 dL_program_2 rfl (lv_at hl 0 rfl) ?_
  refine hp_callC (As := []) (rest := [.int 0, .ref o]) cx hw (x_program l D cA E _ g hst hth sr hsr h hf) (cwV 0 cx.2.2.2.2.2.1 g_Lprogram rfl rfl rfl (by decide +kernel) ⟨Nat.le_of_ble_eq_true rfl, Nat.le_of_ble_eq_true rfl⟩) hh rfl rfl hl.1 rfl (Nat.le_of_ble_eq_true rfl) dL_program_3 ⟨Nat.le_of_ble_eq_true rfl, Nat.le_of_ble_eq_true rfl⟩ _ _ htab (by decide) (by decide) (lkLp 4 rfl) (va_any rfl (hth _ _ _ hw.2.2.2.2.2).1) (fun q9 H locs hw => ?_)
  refine W.eq (g2 := F0 mm 11 ls [.ref q9]) rfl ?_
  refine lv_astore_n (lv' := [(2, .ref q9), (0, .ref h), (1, .ref o)]) cx.1 cx.2.1 dL_program_11 rfl hl (by decide) rfl (fun ls hl => ?_)
  refine lv_iconst (v := 1) cx.1 cx.2.1 dL_program_12 (by decide) ?_
  exact hp_iret cx hw rfl dL_program_13
def lk_Lr : List Cond := [Cond.methodLink RL 15 yX11_run, Cond.instanceMethod yX11_run, Cond.selects RX11 yX11_run yX11_run, Cond.initialized RX11, Cond.classLink RL 19 "java/lang/IllegalStateException"]
def v_Lrun : List Cond := .codeWith yL_run cL_run 7 (some .int) [(0, 14, 17, 19), (0, 14, 21, 13)] :: (lk_Lr ++ (v_x_run ++ []))
theorem gd_v_Lrun : ∀ w ∈ v_Lrun, gdW w := fun w h => (List.mem_cons.mp h).elim (fun e => by rw [e]; exact good_of_word rfl) (fun h => (List.mem_append.mp h).elim (fun h => good_of_word (List.all_eq_true.mp (by decide +kernel : lk_Lr.all goodWord = true) w h)) (fun h => (List.mem_append.mp h).elim (gd_v_x_run w) (fun h => nomatch h)))
theorem lkLr (i : Nat) {w : Cond} (h : lk_Lr[i]? = some w) : w ∈ v_Lrun := List.mem_cons_of_mem _ (List.mem_append_left _ (List.mem_of_getElem? h))
theorem g_Lrun : GoodIn v_Lrun (wsV RL 15 RX11 yX11_run v_x_run) := goodIn_app (fun w h => (fun h => (List.mem_cons.mp h).elim (fun e => by rw [e]; exact ⟨lkLr 0 rfl, good_of_word rfl⟩) (fun h => (List.mem_cons.mp h).elim (fun e => by rw [e]; exact ⟨lkLr 1 rfl, good_of_word rfl⟩) (fun h => (List.mem_cons.mp h).elim (fun e => by rw [e]; exact ⟨lkLr 2 rfl, good_of_word rfl⟩) (fun h => (List.mem_cons.mp h).elim (fun e => by rw [e]; exact ⟨lkLr 3 rfl, good_of_word rfl⟩) (fun h => nomatch h))))) h) (fun w h => ⟨List.mem_cons_of_mem _ (List.mem_append_right _ (List.mem_append_left _ h)), gd_v_x_run w h⟩)
set_option maxHeartbeats 4000000 in
set_option maxRecDepth 100000 in
theorem k_Lrun (l : Launch) (D : va_G) (cA : Nat → ClassId) (E : hp_N) (sz : Nat) (g : hp_M) (hst : l.stackTraces = false) (hth : st_thr E "java/lang/IllegalStateException") (sr : Nat) (hsr : ∀ A U H, E A U H → vk_R "WardenHouse" 208 "there is no program" sr U) (h o : Nat) (hf : fr_House cA g h) (x y z t : Int32) : Met l yL_run v_Lrun ({ frames := 7, cells := 1, slots := 6, locals := 110 }) (hp_Pc D vwCl (hp_Tl cA) E sz g [.ref h, .int x, .int y, .int z, .int t, .ref o]) (hp_Qi D vwCl (hp_Tl cA) sz g (fun r _ => r = 1)) 1 6 (hp_A g sz) := by
  refine hp_ofWH (cc := cL_run) (maxL := 7) (ret := (some .int)) (hh := [(0, 14, 17, 19), (0, 14, 21, 13)]) (by decide) rfl (Nat.le_of_ble_eq_true rfl) ?_
  intro pp ee ss mm bb mt cd ls cx hsz hw hl htab
  have hl : lv_has ls 7 [(0, .ref h), (1, .int x), (2, .int y), (3, .int z), (4, .int t), (5, .ref o)] := hl
  obtain ⟨a, hh, -⟩ := id hf
  refine lv_aload cx.1 cx.2.1 dL_run_0 (lv_at hl 5 rfl) ?_
  refine lv_iconst (v := 0) cx.1 cx.2.1 dL_run_2 (by decide) ?_
  refine lv_aload_n cx.1 cx.2.1 dL_run_3 rfl (lv_at hl 0 rfl) ?_
  refine lv_iload_n cx.1 cx.2.1 dL_run_4 rfl (lv_at hl 1 rfl) ?_
  refine lv_iload_n cx.1 cx.2.1 dL_run_5 rfl (lv_at hl 2 rfl) ?_
  refine lv_iload_n cx.1 cx.2.1 dL_run_6 rfl (lv_at hl 3 rfl) ?_
  refine lv_iload cx.1 cx.2.1 dL_run_7 (lv_at hl 4 rfl) ?_
  refine hp_callC (As := [.int x, .int y, .int z, .int t]) (rest := [.int 0, .ref o]) cx hw (x_run l D cA E _ g hst hth sr hsr h hf x y z t) (cwV 4 cx.2.2.2.2.2.1 g_Lrun rfl rfl rfl (by decide +kernel) ⟨Nat.le_of_ble_eq_true rfl, Nat.le_of_ble_eq_true rfl⟩) hh rfl rfl hl.1 rfl (Nat.le_of_ble_eq_true rfl) dL_run_9 ⟨Nat.le_of_ble_eq_true rfl, Nat.le_of_ble_eq_true rfl⟩ _ _ htab (by decide) (by decide) (lkLr 4 rfl) (va_any rfl (hth _ _ _ hw.2.2.2.2.2).1) (fun q9 H locs hw => ?_)
  refine W.eq (g2 := F0 mm 17 ls [.ref q9]) rfl ?_
  refine lv_astore (lv' := [(6, .ref q9), (0, .ref h), (1, .int x), (2, .int y), (3, .int z), (4, .int t), (5, .ref o)]) cx.1 cx.2.1 dL_run_17 hl (by decide) rfl (fun ls hl => ?_)
  refine lv_iconst (v := 1) cx.1 cx.2.1 dL_run_19 (by decide) ?_
  exact hp_iret cx hw rfl dL_run_20
