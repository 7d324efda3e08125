theorem hp_is0 {D : va_G} {cl : List vw_C} {A : Nat → Prop} {H : Heap} : hp_is D cl A hp_0 H := ⟨[], fun _ => .inr (0, []), fun _ => by simp [hp_0], fun k q h => by simp [va_pl] at h, fun i j p q h => by simp [va_pl] at h, fun k q h => by simp [va_pl] at h⟩
theorem hp_ofWH {l : Launch} {y : MethodName} {ws ws' : List Cond} {rm : Room} {D : va_G} {cl : List vw_C} {tys : List (ClassId × FieldType)} {E : hp_N} {sz : Nat} {g : hp_M} {as : List Value} {Qc : Array Value → State → Outcome → State → Prop} {mc ms : Nat} {cc : ByteArray} {maxL : Nat} {ret : Option FieldType} {hh : List (Nat × Nat × Nat × Nat)}
    (hy : plainName y.cls = true) (hw : ws = Cond.codeWith y cc maxL ret hh :: ws') (hlen : (lg_sl as).length ≤ maxL)
    (body : ∀ (p : Program) (e : Env) (s : State) (m : MethodId) (below : List Frame) (meth : Method) (c : Code) (ls : Array Slot), hp_C p c cc meth ret maxL s m as.toArray y ws → s.heap.size = sz → hp_w D cl tys E (hp_A g sz) s s.heap [] g → lv_has ls maxL (lv_args 0 as) → c.exceptionTable.toList = tableOf hh →
      W p l e rm s m as.toArray below meth c s.heap [] 0 0 (MQ below Qc as.toArray s mc ms (hp_A g sz)) (F0 m 0 ls [])) : Met l y ws rm (hp_Pc D cl tys E sz g as) Qc mc ms (hp_A g sz) := by
  refine va_MetW (cc := cc) (maxL := maxL) (ret := ret) hy hw ?_
  intro p e s m args below meth c s₁ B hml hv
  obtain ⟨rfl, hsz, ⟨hP, hK⟩, hG, hE⟩ := hv
  have hn := name_of_methodNamed B.named B.method
  have hl := lv_entry as (n := maxL) hlen
  have hts := atoms_spec (ws := ws) B.pre
  rw [lg_entry_eq]
  exact body p e s m below meth c _ ⟨B.exec, B.bytes, B.returns, hml, findClass_of_methodNamed B.named, hts, B.notSynchronized, hn.1⟩ hsz ⟨hp_self hP, va_S.rf, hK, fun q h => Or.inr (by rw [← hsz]; exact h), hG, hE⟩ hl (vx_table (x := y) B (hts _ (by rw [hw]; exact List.mem_cons_self)))
theorem hp_third {D : va_G} {cl : List vw_C} {A : Nat → Prop} {tys : List (ClassId × FieldType)} {E : hp_N} {s : State} {H H1 : Heap} {locs : List Loc} {g g1 u : hp_M} (hw : hp_w D cl tys E A s H locs g) (hu : hp_is D cl (hp_A g1 H.size) u H1) : ∀ a e, u a = some e → g1 a = none → g a = none := fun a e h h1 => by
  rcases hp_inA hu (a := a) (by rw [h]; exact fun z => by cases z) with q | q
  · exact absurd h1 q
  · cases hg : g a with
    | none => rfl
    | some x => exact absurd (hp_lt hw.1 (a := a) (by rw [hg]; exact fun z => by cases z)) (Nat.not_lt.mpr q)
section HF2
variable {p : Program} {l : Launch} {e : Env} {R : Room} {s : State} {m : MethodId} {args : Array Value} {below : List Frame} {meth : Method} {c : Code} {H : Heap} {locs : List Loc} {cells slots : Nat} {Q : State → Prop}
variable {cc : ByteArray} {ret : Option FieldType} {maxL : Nat} {y : MethodName} {Ts : List Cond} {pc : Nat} {ls : Array Slot} {rest st0 : List Value} {D : va_G} {cl : List vw_C} {E : hp_N} {A : Nat → Prop} {tys : List (ClassId × FieldType)} {g g1 : hp_M}
variable {y1 : MethodName} {bytes : ByteArray} {maxL1 mc ms n index b : Nat} {ret1 : Option FieldType} {ws : List Cond} {rm : Room} {As : List Value} {C : String}
/-- a call with a part of the picture; what is new was in no picture -/
theorem hp_callFj (cx : hp_C p c cc meth ret maxL s m args y Ts) (hw : hp_w D cl tys E A s H locs g) (hsub : ∀ a e, g1 a = some e → g a = some e) {post : Int32 → hp_M → Prop} (hM : Met l y1 ws rm (hp_Pc D cl tys E H.size g1 (.ref b :: As)) (hp_Qi D cl tys H.size g1 post) mc ms (hp_A g1 H.size)) (cw : CallW R s args y.cls C index y1 bytes maxL1 ret1 ws rm mc ms n) {ci : Nat} {fs : List Value} {T : u_T} {N : Nat} (hg : g b = some (.inr (ci, fs))) (hc : cl[ci]? = some (C, T, N)) (hn : As.length = n) (hsz : ls.size = maxL) (hst : st0 = As.reverse ++ .ref b :: rest) (hW : (rest.map fun v => v.category).sum ≤ 8) (hdg : decode cc pc = .ok (.invokevirtual index, 3)) (hf : cells + mc ≤ R.cells ∧ slots + ms ≤ R.slots)
    (kk : ∀ (r : Int32) (u g2 : hp_M) (H1 : Heap) (locs1 : List Loc), post r u → (∀ a e, u a = some e → g2 a = some e) → (∀ a e, g a = some e → g1 a = none → g2 a = some e) → (∀ a e, u a = some e → g1 a = none → g a = none) → hp_w D cl tys E A s H1 locs1 g2 → W p l e R s m args below meth c H1 locs1 (cells + mc) (slots + ms) Q (F0 m (pc + 3) ls (.int r :: rest))) : W p l e R s m args below meth c H locs cells slots Q (F0 m pc ls st0) := by
  obtain ⟨hx, hb, hr, hml, hown, hts, hlk, hnm⟩ := cx
  exact va_calli (va_runV (As := As) (rest := rest) ⟨hx, hb, hml, hown, hts⟩ hM cw ⟨hp_blind, hp_recv hw hg hc, hp_preF hw hsub _⟩ rfl hn hsz hst (by simpa [F0] using hW) hdg hf) hw.2.1 (fun q _ h => hp_subF hw hsub q h) (hp_subF hw hsub) (fun r u t H1 locs1 ht hvm hp hB hz hk hS => by
    have hu : hp_is D cl (hp_A g1 H.size) u H1 := by rw [← ht]; exact hB.1
    obtain ⟨a1, a2⟩ := hp_overlay hw hsub hu hk hS
    exact kk r u _ H1 locs1 hp (fun a e h => hp_ov_u h) a2 (hp_third hw hu) a1)
/-- a static call of a method with a table; a part of the picture -/
theorem hp_callFWj (cx : hp_C p c cc meth ret maxL s m args y Ts) (hw : hp_w D cl tys E A s H locs g) (hsub : ∀ a e, g1 a = some e → g a = some e) {post : Int32 → hp_M → Prop} (hM : Met l y1 ws rm (hp_Pc D cl tys E H.size g1 As) (hp_Qi D cl tys H.size g1 post) mc ms (hp_A g1 H.size)) {hh : List (Nat × Nat × Nat × Nat)} (cw : vx_CSW R s args y.cls index y1 bytes maxL1 ret1 hh ws rm mc ms n) (hn : As.length = n) (hsz : ls.size = maxL) (hst : st0 = As.reverse ++ rest) (hW : (rest.map fun v => v.category).sum ≤ 8) (hdg : decode cc pc = .ok (.invokestatic index, 3)) (hf : cells + mc ≤ R.cells ∧ slots + ms ≤ R.slots)
    (kk : ∀ (r : Int32) (u g2 : hp_M) (H1 : Heap) (locs1 : List Loc), post r u → (∀ a e, u a = some e → g2 a = some e) → (∀ a e, g a = some e → g1 a = none → g2 a = some e) → (∀ a e, u a = some e → g1 a = none → g a = none) → hp_w D cl tys E A s H1 locs1 g2 → W p l e R s m args below meth c H1 locs1 (cells + mc) (slots + ms) Q (F0 m (pc + 3) ls (.int r :: rest))) : W p l e R s m args below meth c H locs cells slots Q (F0 m pc ls st0) := by
  obtain ⟨hx, hb, hr, hml, hown, hts, hlk, hnm⟩ := cx
  exact va_calli (vx_runSW (As := As) (rest := rest) ⟨hx, hb, hml, hown, hts⟩ hM cw ⟨hp_blind, hp_preF hw hsub _⟩ rfl hn hsz hst (by simpa [F0] using hW) hdg hf) hw.2.1 (fun q _ h => hp_subF hw hsub q h) (hp_subF hw hsub) (fun r u t H1 locs1 ht hvm hp hB hz hk hS => by
    have hu : hp_is D cl (hp_A g1 H.size) u H1 := by rw [← ht]; exact hB.1
    obtain ⟨a1, a2⟩ := hp_overlay hw hsub hu hk hS
    exact kk r u _ H1 locs1 hp (fun a e h => hp_ov_u h) a2 (hp_third hw hu) a1)
/-- a call that throws, caught here; a part of the picture -/
theorem hp_callCF (cx : hp_C p c cc meth ret maxL s m args y Ts) (hw : hp_w D cl tys E A s H locs g) (hsub : ∀ a e, g1 a = some e → g a = some e) {X : String} {post : hp_M → Prop} (hM : vx_Met l y1 ws rm (hp_Pc D cl tys E H.size g1 (.ref b :: As)) (hp_Qv D cl tys H.size g1 (fun _ => False)) (hp_XQ D cl tys X g1 H.size post) mc ms (hp_A g1 H.size)) (cw : CallW R s args y.cls C index y1 bytes maxL1 ret1 ws rm mc ms n) {ci : Nat} {fs : List Value} {T : u_T} {N : Nat} (hg : g b = some (.inr (ci, fs))) (hc : cl[ci]? = some (C, T, N)) (hn : As.length = n) (hsz : ls.size = maxL) (hst : st0 = As.reverse ++ .ref b :: rest) (hW : (rest.map fun v => v.category).sum ≤ 8) (hdg : decode cc pc = .ok (.invokevirtual index, 3)) (hf : cells + mc ≤ R.cells ∧ slots + ms ≤ R.slots)
    (pre : List ExceptionTableEntry) (x : ExceptionTableEntry) (suf : List ExceptionTableEntry) (htab : c.exceptionTable.toList = pre ++ x :: suf) (hpass : ∀ z ∈ pre, covers z pc = false ∨ (z.catchType ≠ 0 ∧ ∃ nm : String, (Cond.classLink y.cls z.catchType nm).before args s = true ∧ va_Nc X nm s)) (hcov : covers x pc = true) (h0 : x.catchType ≠ 0) (hlink : Cond.classLink y.cls x.catchType X ∈ Ts) (hcast : (Cond.castable X X).before args s = true)
    (kk : ∀ (q9 : Nat) (u g2 : hp_M) (H1 : Heap) (locs1 : List Loc), post u → (∀ a e, u a = some e → g2 a = some e) → (∀ a e, g a = some e → g1 a = none → g2 a = some e) → (∀ a e, u a = some e → g1 a = none → g a = none) → hp_w D cl tys E A s H1 locs1 g2 → W p l e R s m args below meth c H1 locs1 (cells + mc) (slots + ms) Q (F0 m x.handlerPc ls [.ref q9])) : W p l e R s m args below meth c H locs cells slots Q (F0 m pc ls st0) := by
  obtain ⟨hx, hb, hr, hml, hown, hts, hlk, hnm⟩ := id cx
  exact vx_callv (vx_runV (As := As) (rest := rest) ⟨hx, hb, hml, hown, hts⟩ hM cw ⟨hp_blind, hp_recv hw hg hc, hp_preF hw hsub _⟩ rfl hn hsz hst (by simpa [F0] using hW) hdg hf) hw.2.1 (fun q _ h => hp_subF hw hsub q h) (hp_subF hw hsub) (fun q _ h => hp_subF hw hsub q h) (fun E9 ce q9 u t H1 locs1 ht hvm hp hB hz hk hS a1 a2 a3 => by
    obtain ⟨hE9, hB⟩ := hB
    subst hE9
    have hu : hp_is D cl (hp_A g1 H.size) u H1 := by rw [← ht]; exact hB.1
    obtain ⟨b1, b2⟩ := hp_overlay hw hsub hu hk hS
    exact vx_catch hown pre x suf htab hpass hcov h0 (hts _ hlink) hcast a1 a2 a3 (kk q9 u _ H1 locs1 hp (fun a e h => hp_ov_u h) b2 (hp_third hw hu) b1)) (fun u t H1 locs1 ht hvm hp hB hz hk hS => hp.elim)
theorem hp_callFIv (cx : hp_C p c cc meth ret maxL s m args y Ts) (hw : hp_w D cl tys E A s H locs g) (hsub : ∀ a e, g1 a = some e → g a = some e) {post : hp_M → Prop} (hM : Met l y1 ws rm (hp_Pc D cl tys E H.size g1 (.ref b :: As)) (hp_Qv D cl tys H.size g1 post) mc ms (hp_A g1 H.size)) (cw : CallB R s args y.cls index y1 bytes maxL1 none ws rm mc ms n ∧ y1.name = "<init>" ∧ (Cond.instanceMethod y1).before args s = true) (hn : As.length = n) (hsz : ls.size = maxL) (hst : st0 = As.reverse ++ .ref b :: rest) (hW : (rest.map fun v => v.category).sum ≤ 8) (hdg : decode cc pc = .ok (.invokespecial index, 3)) (hf : cells + mc ≤ R.cells ∧ slots + ms ≤ R.slots)
    (kk : ∀ (u g2 : hp_M) (H1 : Heap) (locs1 : List Loc), post u → (∀ a e, u a = some e → g2 a = some e) → (∀ a e, g a = some e → g1 a = none → g2 a = some e) → (∀ a e, u a = some e → g1 a = none → g a = none) → hp_w D cl tys E A s H1 locs1 g2 → W p l e R s m args below meth c H1 locs1 (cells + mc) (slots + ms) Q (F0 m (pc + 3) ls rest)) : W p l e R s m args below meth c H locs cells slots Q (F0 m pc ls st0) := by
  obtain ⟨hx, hb, hr, hml, hown, hts, hlk, hnm⟩ := cx
  exact va_callv (va_runI (As := As) (rest := rest) ⟨hx, hb, hml, hown, hts⟩ hM cw ⟨hp_blind, hp_preF hw hsub _⟩ rfl hn hsz hst (by simpa [F0] using hW) hdg hf) hw.2.1 (fun q _ h => hp_subF hw hsub q h) (hp_subF hw hsub) (fun u t H1 locs1 ht hvm hp hB hz hk hS => by
    have hu : hp_is D cl (hp_A g1 H.size) u H1 := by rw [← ht]; exact hB.1
    obtain ⟨a1, a2⟩ := hp_overlay hw hsub hu hk hS
    exact kk u _ H1 locs1 hp (fun a e h => hp_ov_u h) a2 (hp_third hw hu) a1)
/-- x != 0 as a number: 1 or 0, some number of x alone -/
def lbz (x : Int32) : Int32 := if x = 0 then 0 else 1
theorem lw_bool (cx : hp_C p c cc meth ret maxL s m args y Ts) {x : Int32} {off off2 : Int} {tz tj : Nat} (d1 : decode cc pc = .ok (.ifCond .eq off, 3)) (h1 : (pc : Int) + off = (tz : Int)) (d2 : decode cc (pc + 3) = .ok (.iconst 1, 1)) (d3 : decode cc (pc + 4) = .ok (.goto off2, 3)) (h3 : ((pc + 4 : Nat) : Int) + off2 = (tj : Int)) (d4 : decode cc tz = .ok (.iconst 0, 1)) (h4 : tz + 1 = tj)
    (kk : W p l e R s m args below meth c H locs cells slots Q (F0 m tj ls (.int (lbz x) :: rest))) : W p l e R s m args below meth c H locs cells slots Q (F0 m pc ls (.int x :: rest)) := by
  refine lv_if_eq (tgt := tz) cx.1 cx.2.1 d1 h1 (fun h => ?_) (fun h => ?_)
  · refine lv_iconst (v := 0) cx.1 cx.2.1 d4 (by decide) ?_
    rw [h4]
    rw [show lbz x = 0 from if_pos h] at kk
    exact kk
  · refine lv_iconst (v := 1) cx.1 cx.2.1 d2 (by decide) ?_
    refine lv_goto (tgt := tj) cx.1 cx.2.1 d3 h3 ?_
    rw [show lbz x = 1 from if_neg h] at kk
    exact kk
/-- script[i + j] with i = 6 k -/
theorem lw_sc (cx : hp_C p c cc meth ret maxL s m args y Ts) (hw : hp_w D cl tys E A s H locs g) {L k : Nat} {xs : Nat → Int32} (hX : va_X b L xs s s.heap) (hbl : b < s.heap.size) (hbA : ¬ A b) {nL : Nat} {lv : List (Nat × Value)} (hl : lv_has ls nL lv) {i0 i4 : Nat} (h0 : lv[i0]? = some (0, .ref b)) (h4 : lv[i4]? = some (4, .int (nI (6 * k)))) (hk : 6 * k + 5 < L) (hL : L ≤ 384) {j : Nat} (hj : j ≤ 5) {jz : Int} (hjz : Int32.ofInt jz = nI j) (d0 : decode cc pc = .ok (.aload_n 0, 1)) (d1 : decode cc (pc + 1) = .ok (.iload 4, 2)) (d2 : decode cc (pc + 3) = .ok (.iconst jz, 1)) (d3 : decode cc (pc + 4) = .ok (.iadd, 1)) (d4 : decode cc (pc + 5) = .ok (.iaload, 1))
    (kk : W p l e R s m args below meth c H locs cells slots Q (F0 m (pc + 6) ls (.int (xs (6 * k + j)) :: rest))) : W p l e R s m args below meth c H locs cells slots Q (F0 m pc ls rest) := by
  refine lv_aload_n cx.1 cx.2.1 d0 rfl (lv_at hl i0 h0) ?_
  refine lv_iload cx.1 cx.2.1 d1 (lv_at hl i4 h4) ?_
  refine lv_iconst (v := nI j) cx.1 cx.2.1 d2 hjz ?_
  refine lv_iadd cx.1 cx.2.1 d3 ?_
  rw [nI_add]
  refine va_sld cx.1 cx.2.1 hX hbl hbA hw.2.1 (vp_in_nI (N := L) (by omega) (by omega)) d4 ?_
  rw [nI_clamp (by omega)]
  exact kk
end HF2
theorem cmp_same (x : Int64) : lg_cmp x x = 0 := by
  unfold lg_cmp
  simp
theorem md_dom {cA : Nat → ClassId} {ad : Nat → Nat} {s s' : md_S} {a : Nat} (h : md_pic cA ad s a = none) : md_pic cA ad s' a = none := by
  unfold md_pic at h ⊢
  by_cases q : a = ad 137
  · rw [if_pos q] at h; cases h
  · rw [if_neg q] at h ⊢
    cases hf : md_ars.find? (fun k => ad k == a) with
    | none => rfl
    | some k => rw [hf] at h; cases h
/-- the class's picture, the model's, and the array of one long, side by side -/
def lw_J (cA : Nat → ClassId) (ad : Nat → Nat → Nat) (am : Nat → Nat) (o : Nat) (ca : Nat → Nat) (c : cd_S) (m : md_S) (f : Nat → Int64) (g : hp_M) : Prop :=
  cd_inj ad ca ∧ (∀ a e, cd_pic cA ad ca c a = some e → g a = some e) ∧ (∀ a e, md_pic cA am m a = some e → g a = some e) ∧ (∀ a e, md_pic cA am m a = some e → cd_pic cA ad ca c a = none) ∧ g o = some (.inl (cA 2, 1, .inr (.inl f))) ∧ cd_pic cA ad ca c o = none ∧ md_pic cA am m o = none
section LJ
variable {cA : Nat → ClassId} {ad : Nat → Nat → Nat} {am : Nat → Nat} {o : Nat} {ca ca1 : Nat → Nat} {c c1 : cd_S} {m m1 : md_S} {f f1 : Nat → Int64} {g g1 g2 u : hp_M}
theorem lw_J.cls (h : lw_J cA ad am o ca c m f g) (hj : cd_inj ad ca1) (ha : ∀ a e, cd_pic cA ad ca1 c1 a = some e → g2 a = some e) (hb : ∀ a e, g a = some e → cd_pic cA ad ca c a = none → g2 a = some e) (hc : ∀ a e, cd_pic cA ad ca1 c1 a = some e → cd_pic cA ad ca c a = none → g a = none) : lw_J cA ad am o ca1 c1 m f g2 := by
  obtain ⟨h1, h2, h3, h4, h5, h6, h7⟩ := h
  refine ⟨hj, ha, fun a e q => hb a e (h3 a e q) (h4 a e q), fun a e q => ?_, hb o _ h5 h6, ?_, h7⟩
  · cases r : cd_pic cA ad ca1 c1 a with
    | none => rfl
    | some x =>
      have := hc a x r (h4 a e q)
      rw [h3 a e q] at this
      cases this
  · cases r : cd_pic cA ad ca1 c1 o with
    | none => rfl
    | some x =>
      have := hc o x r h6
      rw [h5] at this
      cases this
theorem lw_J.mdl (h : lw_J cA ad am o ca c m f g) (ha : ∀ a e, md_pic cA am m1 a = some e → g2 a = some e) (hb : ∀ a e, g a = some e → md_pic cA am m a = none → g2 a = some e) : lw_J cA ad am o ca c m1 f g2 := by
  obtain ⟨h1, h2, h3, h4, h5, h6, h7⟩ := h
  have hd : ∀ a e, cd_pic cA ad ca c a = some e → md_pic cA am m a = none := fun a e q => by
    cases r : md_pic cA am m a with
    | none => rfl
    | some x => rw [h4 a x r] at q; cases q
  refine ⟨h1, fun a e q => hb a e (h2 a e q) (hd a e q), ha, fun a e q => ?_, hb o _ h5 h7, h6, md_dom h7⟩
  cases r : md_pic cA am m a with
  | none => rw [md_dom r] at q; cases q
  | some x => exact h4 a x r
/-- the picture that a helper of the law is handed: the class's, and the array -/
def lw_H (cA : Nat → ClassId) (ad : Nat → Nat → Nat) (o : Nat) (ca : Nat → Nat) (c : cd_S) (f : Nat → Int64) : hp_M := hp_up (cd_pic cA ad ca c) o (.inl (cA 2, 1, .inr (.inl f)))
theorem lw_J.sub (h : lw_J cA ad am o ca c m f g) : ∀ a e, lw_H cA ad o ca c f a = some e → g a = some e := fun a e q => by
  unfold lw_H at q
  by_cases r : a = o
  · rw [r, hp_up_self] at q
    rw [r, h.2.2.2.2.1]; exact q
  · rw [hp_up_ne _ _ r] at q
    exact h.2.1 a e q
theorem lw_H.cls (h6 : cd_pic cA ad ca c o = none) : ∀ a e, cd_pic cA ad ca c a = some e → lw_H cA ad o ca c f a = some e := fun a e q => (hp_up_ne _ _ (hp_neN q h6)).trans q
theorem lw_H.none {a : Nat} (h : lw_H cA ad o ca c f a = none) : cd_pic cA ad ca c a = none ∧ a ≠ o := by
  unfold lw_H at h
  by_cases r : a = o
  · rw [r, hp_up_self] at h; cases h
  · rw [hp_up_ne _ _ r] at h; exact ⟨h, r⟩
theorem lw_J.hlp (h : lw_J cA ad am o ca c m f g) (hj : cd_inj ad ca1) (hs : ∀ a e, cd_pic cA ad ca1 c1 a = some e → u a = some e) (ho : cd_pic cA ad ca1 c1 o = none) (hu : u o = some (.inl (cA 2, 1, .inr (.inl f1)))) (ha : ∀ a e, u a = some e → g2 a = some e) (hb : ∀ a e, g a = some e → lw_H cA ad o ca c f a = none → g2 a = some e) (hc : ∀ a e, u a = some e → lw_H cA ad o ca c f a = none → g a = none) : lw_J cA ad am o ca1 c1 m f1 g2 := by
  obtain ⟨h1, h2, h3, h4, h5, h6, h7⟩ := h
  have hm : ∀ a e, md_pic cA am m a = some e → lw_H cA ad o ca c f a = none := fun a e q => (hp_up_ne _ _ (hp_neN q h7)).trans (h4 a e q)
  refine ⟨hj, fun a e q => ha a e (hs a e q), fun a e q => hb a e (h3 a e q) (hm a e q), fun a e q => ?_, ha o _ hu, ho, h7⟩
  cases r : cd_pic cA ad ca1 c1 a with
  | none => rfl
  | some x =>
    have := hc a x (hs a x r) (hm a e q)
    rw [h3 a e q] at this
    cases this
end LJ
