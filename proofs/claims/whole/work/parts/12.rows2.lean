section HA
variable {p : Program} {l : Launch} {e : Env} {R : Room} {s : State} {m : MethodId} {args : Array Value} {below : List Frame} {meth : Method} {c : Code} {H : Heap} {locs : List Loc} {cells slots : Nat} {Q : State → Prop}
variable {cc : ByteArray} {ret : Option FieldType} {maxL : Nat} {y : MethodName} {Ts : List Cond} {pc : Nat} {ls : Array Slot} {rest : List Value} {D : va_G} {cl : List vw_C} {E : hp_N} {A : Nat → Prop} {a : Nat} {tys : List (ClassId × FieldType)} {g : hp_M}
theorem hp_iald (cx : hp_C p c cc meth ret maxL s m args y Ts) (hw : hp_w D cl tys E A s H locs g) (t0 : Nat) {cA : ClassId} {n : Nat} {f : Nat → Int32} (hg : g a = some (.inl (cA, n, .inl f))) (ht : tys[t0]? = some (cA, .int)) {i : Int32} (hin : vp_in i n) (hdg : decode cc pc = .ok (.iaload, 1))
    (kk : W p l e R s m args below meth c H locs cells slots Q (F0 m (pc + 1) ls (.int (f i.toNatClampNeg) :: rest))) : W p l e R s m args below meth c H locs cells slots Q (F0 m pc ls (.int i :: .ref a :: rest)) := by
  obtain ⟨hx, hb, -⟩ := cx
  obtain ⟨⟨L, f0, h1, hP, hD⟩, hS, hK, hA, hG, hE⟩ := hw
  obtain ⟨q0, hq⟩ := hp_at h1 hg
  exact va_iald hx hb hK hP q0 t0 hq ht hin hdg kk
theorem hp_bald (cx : hp_C p c cc meth ret maxL s m args y Ts) (hw : hp_w D cl tys E A s H locs g) (t0 : Nat) {cA : ClassId} {n : Nat} {f : Nat → Int32} (hg : g a = some (.inl (cA, n, .inl f))) (ht : tys[t0]? = some (cA, .byte)) {i : Int32} (hin : vp_in i n) (hdg : decode cc pc = .ok (.baload, 1))
    (kk : W p l e R s m args below meth c H locs cells slots Q (F0 m (pc + 1) ls (.int (f i.toNatClampNeg) :: rest))) : W p l e R s m args below meth c H locs cells slots Q (F0 m pc ls (.int i :: .ref a :: rest)) := by
  obtain ⟨hx, hb, -⟩ := cx
  obtain ⟨⟨L, f0, h1, hP, hD⟩, hS, hK, hA, hG, hE⟩ := hw
  obtain ⟨q0, hq⟩ := hp_at h1 hg
  exact va_bald hx hb hK hP q0 t0 hq ht hin hdg kk
theorem hp_zald (cx : hp_C p c cc meth ret maxL s m args y Ts) (hw : hp_w D cl tys E A s H locs g) (t0 : Nat) {cA : ClassId} {n : Nat} {f : Nat → Int32} (hg : g a = some (.inl (cA, n, .inl f))) (ht : tys[t0]? = some (cA, .boolean)) {i : Int32} (hin : vp_in i n) (hdg : decode cc pc = .ok (.baload, 1))
    (kk : W p l e R s m args below meth c H locs cells slots Q (F0 m (pc + 1) ls (.int (f i.toNatClampNeg) :: rest))) : W p l e R s m args below meth c H locs cells slots Q (F0 m pc ls (.int i :: .ref a :: rest)) := by
  obtain ⟨hx, hb, -⟩ := cx
  obtain ⟨⟨L, f0, h1, hP, hD⟩, hS, hK, hA, hG, hE⟩ := hw
  obtain ⟨q0, hq⟩ := hp_at h1 hg
  exact va_zald hx hb hK hP q0 t0 hq ht hin hdg kk
theorem hp_lald (cx : hp_C p c cc meth ret maxL s m args y Ts) (hw : hp_w D cl tys E A s H locs g) (t0 : Nat) {cA : ClassId} {n : Nat} {f : Nat → Int64} (hg : g a = some (.inl (cA, n, .inr (.inl f)))) (ht : tys[t0]? = some (cA, .long)) {i : Int32} (hin : vp_in i n) (hdg : decode cc pc = .ok (.laload, 1))
    (kk : W p l e R s m args below meth c H locs cells slots Q (F0 m (pc + 1) ls (.long (f i.toNatClampNeg) :: rest))) : W p l e R s m args below meth c H locs cells slots Q (F0 m pc ls (.int i :: .ref a :: rest)) := by
  obtain ⟨hx, hb, -⟩ := cx
  obtain ⟨⟨L, f0, h1, hP, hD⟩, hS, hK, hA, hG, hE⟩ := hw
  obtain ⟨q0, hq⟩ := hp_at h1 hg
  exact va_lald hx hb hK hP q0 t0 hq ht hin hdg kk
theorem hp_iast (cx : hp_C p c cc meth ret maxL s m args y Ts) (hw : hp_w D cl tys E A s H locs g) (t0 : Nat) {cA : ClassId} {n : Nat} {f : Nat → Int32} (hg : g a = some (.inl (cA, n, .inl f))) (ht : tys[t0]? = some (cA, .int)) {i : Int32} {x : Int32} (hin : vp_in i n) (hdg : decode cc pc = .ok (.iastore, 1))
    (kk : ∀ (g1 : hp_M) (H1 : Heap) (locs1 : List Loc), g1 = hp_up g a (.inl (cA, n, .inl (upd f i.toNatClampNeg x))) → hp_w D cl tys E A s H1 locs1 g1 → W p l e R s m args below meth c H1 locs1 cells slots Q (F0 m (pc + 1) ls rest)) : W p l e R s m args below meth c H locs cells slots Q (F0 m pc ls (.int x :: .int i :: .ref a :: rest)) := by
  obtain ⟨hx, hb, -⟩ := cx
  obtain ⟨⟨L, f0, h1, hP, hD⟩, hS, hK, hA, hG, hE⟩ := hw
  obtain ⟨q0, hq⟩ := hp_at h1 hg
  exact va_iast hx hb hK hP hD hS q0 t0 hq ht hin hdg (fun H1 locs1 hP1 hD1 hS1 => kk _ H1 locs1 rfl ⟨hp_set h1 hq hD hP1 hD1, hS1, hK, hA, hG, hE⟩)
theorem hp_bast (cx : hp_C p c cc meth ret maxL s m args y Ts) (hw : hp_w D cl tys E A s H locs g) (t0 : Nat) {cA : ClassId} {n : Nat} {f : Nat → Int32} (hg : g a = some (.inl (cA, n, .inl f))) (ht : tys[t0]? = some (cA, .byte)) {i : Int32} {x : Int32} (hin : vp_in i n) (hdg : decode cc pc = .ok (.bastore, 1))
    (kk : ∀ (g1 : hp_M) (H1 : Heap) (locs1 : List Loc), g1 = hp_up g a (.inl (cA, n, .inl (upd f i.toNatClampNeg (vp_nar .byte x)))) → hp_w D cl tys E A s H1 locs1 g1 → W p l e R s m args below meth c H1 locs1 cells slots Q (F0 m (pc + 1) ls rest)) : W p l e R s m args below meth c H locs cells slots Q (F0 m pc ls (.int x :: .int i :: .ref a :: rest)) := by
  obtain ⟨hx, hb, -⟩ := cx
  obtain ⟨⟨L, f0, h1, hP, hD⟩, hS, hK, hA, hG, hE⟩ := hw
  obtain ⟨q0, hq⟩ := hp_at h1 hg
  exact va_bast hx hb hK hP hD hS q0 t0 hq ht hin hdg (fun H1 locs1 hP1 hD1 hS1 => kk _ H1 locs1 rfl ⟨hp_set h1 hq hD hP1 hD1, hS1, hK, hA, hG, hE⟩)
theorem hp_zast (cx : hp_C p c cc meth ret maxL s m args y Ts) (hw : hp_w D cl tys E A s H locs g) (t0 : Nat) {cA : ClassId} {n : Nat} {f : Nat → Int32} (hg : g a = some (.inl (cA, n, .inl f))) (ht : tys[t0]? = some (cA, .boolean)) {i : Int32} {x : Int32} (hin : vp_in i n) (hdg : decode cc pc = .ok (.bastore, 1))
    (kk : ∀ (g1 : hp_M) (H1 : Heap) (locs1 : List Loc), g1 = hp_up g a (.inl (cA, n, .inl (upd f i.toNatClampNeg (vp_nar .boolean x)))) → hp_w D cl tys E A s H1 locs1 g1 → W p l e R s m args below meth c H1 locs1 cells slots Q (F0 m (pc + 1) ls rest)) : W p l e R s m args below meth c H locs cells slots Q (F0 m pc ls (.int x :: .int i :: .ref a :: rest)) := by
  obtain ⟨hx, hb, -⟩ := cx
  obtain ⟨⟨L, f0, h1, hP, hD⟩, hS, hK, hA, hG, hE⟩ := hw
  obtain ⟨q0, hq⟩ := hp_at h1 hg
  exact va_zast hx hb hK hP hD hS q0 t0 hq ht hin hdg (fun H1 locs1 hP1 hD1 hS1 => kk _ H1 locs1 rfl ⟨hp_set h1 hq hD hP1 hD1, hS1, hK, hA, hG, hE⟩)
theorem hp_last (cx : hp_C p c cc meth ret maxL s m args y Ts) (hw : hp_w D cl tys E A s H locs g) (t0 : Nat) {cA : ClassId} {n : Nat} {f : Nat → Int64} (hg : g a = some (.inl (cA, n, .inr (.inl f)))) (ht : tys[t0]? = some (cA, .long)) {i : Int32} {x : Int64} (hin : vp_in i n) (hdg : decode cc pc = .ok (.lastore, 1))
    (kk : ∀ (g1 : hp_M) (H1 : Heap) (locs1 : List Loc), g1 = hp_up g a (.inl (cA, n, .inr (.inl (vp_updL f i.toNatClampNeg x)))) → hp_w D cl tys E A s H1 locs1 g1 → W p l e R s m args below meth c H1 locs1 cells slots Q (F0 m (pc + 1) ls rest)) : W p l e R s m args below meth c H locs cells slots Q (F0 m pc ls (.long x :: .int i :: .ref a :: rest)) := by
  obtain ⟨hx, hb, -⟩ := cx
  obtain ⟨⟨L, f0, h1, hP, hD⟩, hS, hK, hA, hG, hE⟩ := hw
  obtain ⟨q0, hq⟩ := hp_at h1 hg
  exact va_last hx hb hK hP hD hS q0 t0 hq ht hin hdg (fun H1 locs1 hP1 hD1 hS1 => kk _ H1 locs1 rfl ⟨hp_set h1 hq hD hP1 hD1, hS1, hK, hA, hG, hE⟩)
theorem hp_aald (cx : hp_C p c cc meth ret maxL s m args y Ts) (hw : hp_w D cl tys E A s H locs g) (t0 : Nat) {cA : ClassId} {n : Nat} {C : String} {f : Nat → Option Nat} (hg : g a = some (.inl (cA, n, .inr (.inr (.inr (.inr f)))))) (ht : tys[t0]? = some (cA, .object C)) {i : Int32} (hin : vp_in i n) (hdg : decode cc pc = .ok (.aaload, 1))
    (kk : W p l e R s m args below meth c H locs cells slots Q (F0 m (pc + 1) ls (va_rf (f i.toNatClampNeg) :: rest))) : W p l e R s m args below meth c H locs cells slots Q (F0 m pc ls (.int i :: .ref a :: rest)) := by
  obtain ⟨hx, hb, -⟩ := cx
  obtain ⟨⟨L, f0, h1, hP, hD⟩, hS, hK, hA, hG, hE⟩ := hw
  obtain ⟨q0, hq⟩ := hp_at h1 hg
  exact va_aldq hx hb hK hP q0 t0 hq ht hin hdg kk
theorem hp_aast (cx : hp_C p c cc meth ret maxL s m args y Ts) (hw : hp_w D cl tys E A s H locs g) (t0 : Nat) {cA : ClassId} {n : Nat} {r : vw_C} {v ci : Nat} {vs : List Value} {f : Nat → Option Nat} (hg : g a = some (.inl (cA, n, .inr (.inr (.inr (.inr f)))))) (ht : tys[t0]? = some (cA, .object r.1)) (hv : g v = some (.inr (ci, vs))) (hc : cl[ci]? = some r) {i : Int32} (hin : vp_in i n) (hdg : decode cc pc = .ok (.aastore, 1))
    (kk : ∀ (g1 : hp_M) (H1 : Heap) (locs1 : List Loc), g1 = hp_up g a (.inl (cA, n, .inr (.inr (.inr (.inr (va_up f i.toNatClampNeg (some v))))))) → hp_w D cl tys E A s H1 locs1 g1 → W p l e R s m args below meth c H1 locs1 cells slots Q (F0 m (pc + 1) ls rest)) : W p l e R s m args below meth c H locs cells slots Q (F0 m pc ls (.ref v :: .int i :: .ref a :: rest)) := by
  obtain ⟨hx, hb, -⟩ := cx
  obtain ⟨⟨L, f0, h1, hP, hD⟩, hS, hK, hA, hG, hE⟩ := hw
  obtain ⟨q0, hq⟩ := hp_at h1 hg
  obtain ⟨q2, hq2⟩ := hp_at h1 hv
  exact va_astq hx hb hK hP hD hS q0 t0 q2 ci hq ht hq2 hc hin hdg (fun H1 locs1 hP1 hD1 hS1 => kk _ H1 locs1 rfl ⟨hp_set h1 hq hD hP1 hD1, hS1, hK, hA, hG, hE⟩)
end HA
section HR
variable {p : Program} {l : Launch} {e : Env} {R : Room} {s : State} {m : MethodId} {args : Array Value} {below : List Frame} {meth : Method} {c : Code} {H : Heap} {locs : List Loc} {cells slots : Nat}
variable {cc : ByteArray} {maxL : Nat} {y : MethodName} {Ts : List Cond} {pc : Nat} {ls : Array Slot} {D : va_G} {cl : List vw_C} {E : hp_N} {sz mc ms : Nat} {tys : List (ClassId × FieldType)} {g g0 : hp_M}
theorem hp_iret (cx : hp_C p c cc meth (some .int) maxL s m args y Ts) (hw : hp_w D cl tys E (hp_A g0 sz) s H locs g) {v : Int32} {post : Int32 → hp_M → Prop} (hp : post v g)  (hdg : decode cc pc = .ok (.ireturn, 1)) (h1 : cells ≤ mc := by first | exact Nat.le_refl _ | decide | omega) (h2 : slots ≤ ms := by first | exact Nat.le_refl _ | decide | omega) : W p l e R s m args below meth c H locs cells slots (MQ below (hp_Qi D cl tys sz g0 post) args s mc ms (hp_A g0 sz)) (F0 m pc ls [.int v]) := by
  obtain ⟨hx, hb, hr, hml, hown, hts, hlk, hnm⟩ := cx
  obtain ⟨hI, hS, hK, hA, hG, hE⟩ := hw
  refine W.widen h1 h2 ?_
  exact W.iret hx hb hr  (fun t ht hW => ⟨⟨v, g, rfl, hp, by rw [ht]; exact hI, va_K.moved hW.alike hK⟩, hS.F ht⟩) hS.2.2 hdg hlk
theorem hp_zret (cx : hp_C p c cc meth (some .boolean) maxL s m args y Ts) (hw : hp_w D cl tys E (hp_A g0 sz) s H locs g) {v : Int32} {post : Int32 → hp_M → Prop} (hp : post v g) (hnz : narrow .boolean (.int v) = .int v) (hdg : decode cc pc = .ok (.ireturn, 1)) (h1 : cells ≤ mc := by first | exact Nat.le_refl _ | decide | omega) (h2 : slots ≤ ms := by first | exact Nat.le_refl _ | decide | omega) : W p l e R s m args below meth c H locs cells slots (MQ below (hp_Qi D cl tys sz g0 post) args s mc ms (hp_A g0 sz)) (F0 m pc ls [.int v]) := by
  obtain ⟨hx, hb, hr, hml, hown, hts, hlk, hnm⟩ := cx
  obtain ⟨hI, hS, hK, hA, hG, hE⟩ := hw
  refine W.widen h1 h2 ?_
  exact W.zret hx hb hr hnz (fun t ht hW => ⟨⟨v, g, rfl, hp, by rw [ht]; exact hI, va_K.moved hW.alike hK⟩, hS.F ht⟩) hS.2.2 hdg hlk
theorem hp_lret (cx : hp_C p c cc meth (some .long) maxL s m args y Ts) (hw : hp_w D cl tys E (hp_A g0 sz) s H locs g) {v : Int64} {post : Int64 → hp_M → Prop} (hp : post v g)  (hdg : decode cc pc = .ok (.lreturn, 1)) (h1 : cells ≤ mc := by first | exact Nat.le_refl _ | decide | omega) (h2 : slots ≤ ms := by first | exact Nat.le_refl _ | decide | omega) : W p l e R s m args below meth c H locs cells slots (MQ below (hp_Ql D cl tys sz g0 post) args s mc ms (hp_A g0 sz)) (F0 m pc ls [.long v]) := by
  obtain ⟨hx, hb, hr, hml, hown, hts, hlk, hnm⟩ := cx
  obtain ⟨hI, hS, hK, hA, hG, hE⟩ := hw
  refine W.widen h1 h2 ?_
  exact W.lret hx hb hr  (fun t ht hW => ⟨⟨v, g, rfl, hp, by rw [ht]; exact hI, va_K.moved hW.alike hK⟩, hS.F ht⟩) hS.2.2 hdg hlk
theorem hp_vret (cx : hp_C p c cc meth none maxL s m args y Ts) (hw : hp_w D cl tys E (hp_A g0 sz) s H locs g) {post : hp_M → Prop} (hp : post g)  (hdg : decode cc pc = .ok (.return_, 1)) (h1 : cells ≤ mc := by first | exact Nat.le_refl _ | decide | omega) (h2 : slots ≤ ms := by first | exact Nat.le_refl _ | decide | omega) : W p l e R s m args below meth c H locs cells slots (MQ below (hp_Qv D cl tys sz g0 post) args s mc ms (hp_A g0 sz)) (F0 m pc ls []) := by
  obtain ⟨hx, hb, hr, hml, hown, hts, hlk, hnm⟩ := cx
  obtain ⟨hI, hS, hK, hA, hG, hE⟩ := hw
  refine W.widen h1 h2 ?_
  exact W.vret hx hb hr  (fun t ht hW => ⟨⟨g, rfl, hp, by rw [ht]; exact hI, va_K.moved hW.alike hK⟩, hS.F ht⟩) hS.2.2 hdg hlk
theorem hp_aret {rt : FieldType} (cx : hp_C p c cc meth (some rt) maxL s m args y Ts) (hw : hp_w D cl tys E (hp_A g0 sz) s H locs g) {v : Nat} {post : Nat → hp_M → Prop} (hp : post v g) (hrt : (∃ n, rt = .object n) ∨ ∃ t, rt = .array t) (hdg : decode cc pc = .ok (.areturn, 1)) (h1 : cells ≤ mc := by first | exact Nat.le_refl _ | decide | omega) (h2 : slots ≤ ms := by first | exact Nat.le_refl _ | decide | omega) : W p l e R s m args below meth c H locs cells slots (MQ below (hp_Qr D cl tys sz g0 post) args s mc ms (hp_A g0 sz)) (F0 m pc ls [.ref v]) := by
  obtain ⟨hx, hb, hr, hml, hown, hts, hlk, hnm⟩ := cx
  obtain ⟨hI, hS, hK, hA, hG, hE⟩ := hw
  refine W.widen h1 h2 ?_
  exact W.aret hx hb hr hrt (Or.inr ⟨v, rfl⟩) (fun t ht hW => ⟨⟨g, v, rfl, trivial, hp, by rw [ht]; exact hI, va_K.moved hW.alike hK⟩, hS.F ht⟩) hS.2.2 hdg hlk
end HR
section HC
variable {p : Program} {l : Launch} {e : Env} {R : Room} {s : State} {m : MethodId} {args : Array Value} {below : List Frame} {meth : Method} {c : Code} {H : Heap} {locs : List Loc} {cells slots : Nat} {Q : State → Prop}
variable {cc : ByteArray} {ret : Option FieldType} {maxL : Nat} {y : MethodName} {Ts : List Cond} {pc : Nat} {ls : Array Slot} {rest st0 : List Value} {D : va_G} {cl : List vw_C} {E : hp_N} {A : Nat → Prop} {tys : List (ClassId × FieldType)} {g : hp_M}
variable {y1 : MethodName} {bytes : ByteArray} {maxL1 mc ms n index b : Nat} {ret1 : Option FieldType} {ws : List Cond} {rm : Room} {As : List Value} {C : String}
theorem hp_sub (hw : hp_w D cl tys E A s H locs g) : ∀ q, hp_A g H.size q → A q := fun q h => h.elim (fun h => hp_inA hw.1 h) (fun h => hw.2.2.2.1 q (Nat.le_trans hw.2.1.1 h))
theorem hp_behind (hw : hp_w D cl tys E A s H locs g) {u : hp_M} {t : State} {H1 : Heap} {locs1 : List Loc} (ht : t.heap = H1) (hvm : s.vm.Alike t.vm) (hB : hp_B D cl tys (hp_A g H.size) u t) (hS : va_S A s.heap H1 locs1) : hp_w D cl tys E A s H1 locs1 u := by
  refine ⟨?_, hS, hw.2.2.1, hw.2.2.2⟩
  rw [← ht]
  exact hp_weak hB.1 (hp_sub hw)
theorem hp_pre (hw : hp_w D cl tys E A s H locs g) (av : List Value) : ∀ U : State, U.heap = H → s.WarmedH U.vm → hp_Pc D cl tys E H.size g av av.toArray U := fun U hU hW => ⟨rfl, by rw [hU], ⟨by rw [hU]; exact hp_all hw.1, va_K.moved hW.alike hw.2.2.1⟩, hw.2.2.2.2.1, by
  rw [hU]
  obtain ⟨g1, g2, g3, g4⟩ := hw.2.2.2.2.1
  exact g2 _ s U H hW (g1 _ _ _ _ (hp_sub hw) (g4 _ _ _ _ hw.2.1.2.1 hw.2.2.2.2.2))⟩
theorem hp_recv (hw : hp_w D cl tys E A s H locs g) {ci : Nat} {fs : List Value} {q : vw_C} (hg : g b = some (.inr (ci, fs))) (hc : cl[ci]? = some q) : ∃ cell : Cell, H[b]? = some cell ∧ cell.vm.isStatics = false ∧ s.vm.findClass q.1 = some cell.cls := by
  obtain ⟨⟨L, f, h1, hP, hD⟩, hS, hK, hA, hG, hE⟩ := hw
  obtain ⟨q0, hq⟩ := hp_at h1 hg
  exact va_recv hK hP hc hq
theorem hp_callVv (cx : hp_C p c cc meth ret maxL s m args y Ts) (hw : hp_w D cl tys E A s H locs g) {post : hp_M → Prop} (hM : Met l y1 ws rm (hp_Pc D cl tys E H.size g (.ref b :: As)) (hp_Qv D cl tys H.size g post) mc ms (hp_A g H.size)) (cw : CallW R s args y.cls C index y1 bytes maxL1 ret1 ws rm mc ms n) {ci : Nat} {fs : List Value} {T : u_T} {N : Nat} (hg : g b = some (.inr (ci, fs))) (hc : cl[ci]? = some (C, T, N)) (hn : As.length = n) (hsz : ls.size = maxL) (hst : st0 = As.reverse ++ .ref b :: rest) (hW : (rest.map fun v => v.category).sum ≤ 8) (hdg : decode cc pc = .ok (.invokevirtual index, 3)) (hf : cells + mc ≤ R.cells ∧ slots + ms ≤ R.slots)
    (kk : ∀ (u : hp_M) (H1 : Heap) (locs1 : List Loc), post u → hp_w D cl tys E A s H1 locs1 u → W p l e R s m args below meth c H1 locs1 (cells + mc) (slots + ms) Q (F0 m (pc + 3) ls rest)) : W p l e R s m args below meth c H locs cells slots Q (F0 m pc ls st0) := by
  obtain ⟨hx, hb, hr, hml, hown, hts, hlk, hnm⟩ := cx
  exact va_callv (va_runV (As := As) (rest := rest) ⟨hx, hb, hml, hown, hts⟩ hM cw ⟨hp_blind, hp_recv hw hg hc, hp_pre hw _⟩ rfl hn hsz hst (by simpa [F0] using hW) hdg hf) hw.2.1 (fun q _ h => hp_sub hw q h) (hp_sub hw) (fun u t H1 locs1 ht hvm hp hB hz hk hS => kk u H1 locs1 hp (hp_behind hw ht hvm hB hS))
theorem hp_callVi (cx : hp_C p c cc meth ret maxL s m args y Ts) (hw : hp_w D cl tys E A s H locs g) {post : Int32 → hp_M → Prop} (hM : Met l y1 ws rm (hp_Pc D cl tys E H.size g (.ref b :: As)) (hp_Qi D cl tys H.size g post) mc ms (hp_A g H.size)) (cw : CallW R s args y.cls C index y1 bytes maxL1 ret1 ws rm mc ms n) {ci : Nat} {fs : List Value} {T : u_T} {N : Nat} (hg : g b = some (.inr (ci, fs))) (hc : cl[ci]? = some (C, T, N)) (hn : As.length = n) (hsz : ls.size = maxL) (hst : st0 = As.reverse ++ .ref b :: rest) (hW : (rest.map fun v => v.category).sum ≤ 8) (hdg : decode cc pc = .ok (.invokevirtual index, 3)) (hf : cells + mc ≤ R.cells ∧ slots + ms ≤ R.slots)
    (kk : ∀ (r : Int32) (u : hp_M) (H1 : Heap) (locs1 : List Loc), post r u → hp_w D cl tys E A s H1 locs1 u → W p l e R s m args below meth c H1 locs1 (cells + mc) (slots + ms) Q (F0 m (pc + 3) ls (.int r :: rest))) : W p l e R s m args below meth c H locs cells slots Q (F0 m pc ls st0) := by
  obtain ⟨hx, hb, hr, hml, hown, hts, hlk, hnm⟩ := cx
  exact va_calli (va_runV (As := As) (rest := rest) ⟨hx, hb, hml, hown, hts⟩ hM cw ⟨hp_blind, hp_recv hw hg hc, hp_pre hw _⟩ rfl hn hsz hst (by simpa [F0] using hW) hdg hf) hw.2.1 (fun q _ h => hp_sub hw q h) (hp_sub hw) (fun r u t H1 locs1 ht hvm hp hB hz hk hS => kk r u H1 locs1 hp (hp_behind hw ht hvm hB hS))
theorem hp_callVl (cx : hp_C p c cc meth ret maxL s m args y Ts) (hw : hp_w D cl tys E A s H locs g) {post : Int64 → hp_M → Prop} (hM : Met l y1 ws rm (hp_Pc D cl tys E H.size g (.ref b :: As)) (hp_Ql D cl tys H.size g post) mc ms (hp_A g H.size)) (cw : CallW R s args y.cls C index y1 bytes maxL1 ret1 ws rm mc ms n) {ci : Nat} {fs : List Value} {T : u_T} {N : Nat} (hg : g b = some (.inr (ci, fs))) (hc : cl[ci]? = some (C, T, N)) (hn : As.length = n) (hsz : ls.size = maxL) (hst : st0 = As.reverse ++ .ref b :: rest) (hW : (rest.map fun v => v.category).sum ≤ 8) (hdg : decode cc pc = .ok (.invokevirtual index, 3)) (hf : cells + mc ≤ R.cells ∧ slots + ms ≤ R.slots)
    (kk : ∀ (r : Int64) (u : hp_M) (H1 : Heap) (locs1 : List Loc), post r u → hp_w D cl tys E A s H1 locs1 u → W p l e R s m args below meth c H1 locs1 (cells + mc) (slots + ms) Q (F0 m (pc + 3) ls (.long r :: rest))) : W p l e R s m args below meth c H locs cells slots Q (F0 m pc ls st0) := by
  obtain ⟨hx, hb, hr, hml, hown, hts, hlk, hnm⟩ := cx
  exact va_calll (va_runV (As := As) (rest := rest) ⟨hx, hb, hml, hown, hts⟩ hM cw ⟨hp_blind, hp_recv hw hg hc, hp_pre hw _⟩ rfl hn hsz hst (by simpa [F0] using hW) hdg hf) hw.2.1 (fun q _ h => hp_sub hw q h) (hp_sub hw) (fun r u t H1 locs1 ht hvm hp hB hz hk hS => kk r u H1 locs1 hp (hp_behind hw ht hvm hB hS))
theorem hp_callVr (cx : hp_C p c cc meth ret maxL s m args y Ts) (hw : hp_w D cl tys E A s H locs g) {post : Nat → hp_M → Prop} (hM : Met l y1 ws rm (hp_Pc D cl tys E H.size g (.ref b :: As)) (hp_Qr D cl tys H.size g post) mc ms (hp_A g H.size)) (cw : CallW R s args y.cls C index y1 bytes maxL1 ret1 ws rm mc ms n) {ci : Nat} {fs : List Value} {T : u_T} {N : Nat} (hg : g b = some (.inr (ci, fs))) (hc : cl[ci]? = some (C, T, N)) (hn : As.length = n) (hsz : ls.size = maxL) (hst : st0 = As.reverse ++ .ref b :: rest) (hW : (rest.map fun v => v.category).sum ≤ 8) (hdg : decode cc pc = .ok (.invokevirtual index, 3)) (hf : cells + mc ≤ R.cells ∧ slots + ms ≤ R.slots)
    (kk : ∀ (r : Nat) (u : hp_M) (H1 : Heap) (locs1 : List Loc), post r u → hp_w D cl tys E A s H1 locs1 u → W p l e R s m args below meth c H1 locs1 (cells + mc) (slots + ms) Q (F0 m (pc + 3) ls (.ref r :: rest))) : W p l e R s m args below meth c H locs cells slots Q (F0 m pc ls st0) := by
  obtain ⟨hx, hb, hr, hml, hown, hts, hlk, hnm⟩ := cx
  exact va_callr (va_runV (As := As) (rest := rest) ⟨hx, hb, hml, hown, hts⟩ hM cw ⟨hp_blind, hp_recv hw hg hc, hp_pre hw _⟩ rfl hn hsz hst (by simpa [F0] using hW) hdg hf) hw.2.1 (fun q _ h => hp_sub hw q h) (hp_sub hw) (fun u r t H1 locs1 ht hvm _ hB hz hk hS => kk r u H1 locs1 hB.1 (hp_behind hw ht hvm hB.2 hS))
theorem hp_callIv (cx : hp_C p c cc meth ret maxL s m args y Ts) (hw : hp_w D cl tys E A s H locs g) {post : hp_M → Prop} (hM : Met l y1 ws rm (hp_Pc D cl tys E H.size g (.ref b :: As)) (hp_Qv D cl tys H.size g post) mc ms (hp_A g H.size)) (cw : CallB R s args y.cls index y1 bytes maxL1 none ws rm mc ms n ∧ y1.name = "<init>" ∧ (Cond.instanceMethod y1).before args s = true) (hn : As.length = n) (hsz : ls.size = maxL) (hst : st0 = As.reverse ++ .ref b :: rest) (hW : (rest.map fun v => v.category).sum ≤ 8) (hdg : decode cc pc = .ok (.invokespecial index, 3)) (hf : cells + mc ≤ R.cells ∧ slots + ms ≤ R.slots)
    (kk : ∀ (u : hp_M) (H1 : Heap) (locs1 : List Loc), post u → hp_w D cl tys E A s H1 locs1 u → W p l e R s m args below meth c H1 locs1 (cells + mc) (slots + ms) Q (F0 m (pc + 3) ls rest)) : W p l e R s m args below meth c H locs cells slots Q (F0 m pc ls st0) := by
  obtain ⟨hx, hb, hr, hml, hown, hts, hlk, hnm⟩ := cx
  exact va_callv (va_runI (As := As) (rest := rest) ⟨hx, hb, hml, hown, hts⟩ hM cw ⟨hp_blind, hp_pre hw _⟩ rfl hn hsz hst (by simpa [F0] using hW) hdg hf) hw.2.1 (fun q _ h => hp_sub hw q h) (hp_sub hw) (fun u t H1 locs1 ht hvm hp hB hz hk hS => kk u H1 locs1 hp (hp_behind hw ht hvm hB hS))
theorem hp_callSv (cx : hp_C p c cc meth ret maxL s m args y Ts) (hw : hp_w D cl tys E A s H locs g) {post : hp_M → Prop} (hM : Met l y1 ws rm (hp_Pc D cl tys E H.size g As) (hp_Qv D cl tys H.size g post) mc ms (hp_A g H.size)) (cw : CallB R s args y.cls index y1 bytes maxL1 ret1 ws rm mc ms n ∧ (Cond.static y1).before args s = true) (hn : As.length = n) (hsz : ls.size = maxL) (hst : st0 = As.reverse ++ rest) (hW : (rest.map fun v => v.category).sum ≤ 8) (hdg : decode cc pc = .ok (.invokestatic index, 3)) (hf : cells + mc ≤ R.cells ∧ slots + ms ≤ R.slots)
    (kk : ∀ (u : hp_M) (H1 : Heap) (locs1 : List Loc), post u → hp_w D cl tys E A s H1 locs1 u → W p l e R s m args below meth c H1 locs1 (cells + mc) (slots + ms) Q (F0 m (pc + 3) ls rest)) : W p l e R s m args below meth c H locs cells slots Q (F0 m pc ls st0) := by
  obtain ⟨hx, hb, hr, hml, hown, hts, hlk, hnm⟩ := cx
  exact va_callv (va_runS (As := As) (rest := rest) ⟨hx, hb, hml, hown, hts⟩ hM cw ⟨hp_blind, hp_pre hw _⟩ rfl hn hsz hst (by simpa [F0] using hW) hdg hf) hw.2.1 (fun q _ h => hp_sub hw q h) (hp_sub hw) (fun u t H1 locs1 ht hvm hp hB hz hk hS => kk u H1 locs1 hp (hp_behind hw ht hvm hB hS))
theorem hp_callSi (cx : hp_C p c cc meth ret maxL s m args y Ts) (hw : hp_w D cl tys E A s H locs g) {post : Int32 → hp_M → Prop} (hM : Met l y1 ws rm (hp_Pc D cl tys E H.size g As) (hp_Qi D cl tys H.size g post) mc ms (hp_A g H.size)) (cw : CallB R s args y.cls index y1 bytes maxL1 ret1 ws rm mc ms n ∧ (Cond.static y1).before args s = true) (hn : As.length = n) (hsz : ls.size = maxL) (hst : st0 = As.reverse ++ rest) (hW : (rest.map fun v => v.category).sum ≤ 8) (hdg : decode cc pc = .ok (.invokestatic index, 3)) (hf : cells + mc ≤ R.cells ∧ slots + ms ≤ R.slots)
    (kk : ∀ (r : Int32) (u : hp_M) (H1 : Heap) (locs1 : List Loc), post r u → hp_w D cl tys E A s H1 locs1 u → W p l e R s m args below meth c H1 locs1 (cells + mc) (slots + ms) Q (F0 m (pc + 3) ls (.int r :: rest))) : W p l e R s m args below meth c H locs cells slots Q (F0 m pc ls st0) := by
  obtain ⟨hx, hb, hr, hml, hown, hts, hlk, hnm⟩ := cx
  exact va_calli (va_runS (As := As) (rest := rest) ⟨hx, hb, hml, hown, hts⟩ hM cw ⟨hp_blind, hp_pre hw _⟩ rfl hn hsz hst (by simpa [F0] using hW) hdg hf) hw.2.1 (fun q _ h => hp_sub hw q h) (hp_sub hw) (fun r u t H1 locs1 ht hvm hp hB hz hk hS => kk r u H1 locs1 hp (hp_behind hw ht hvm hB hS))
theorem hp_callSl (cx : hp_C p c cc meth ret maxL s m args y Ts) (hw : hp_w D cl tys E A s H locs g) {post : Int64 → hp_M → Prop} (hM : Met l y1 ws rm (hp_Pc D cl tys E H.size g As) (hp_Ql D cl tys H.size g post) mc ms (hp_A g H.size)) (cw : CallB R s args y.cls index y1 bytes maxL1 ret1 ws rm mc ms n ∧ (Cond.static y1).before args s = true) (hn : As.length = n) (hsz : ls.size = maxL) (hst : st0 = As.reverse ++ rest) (hW : (rest.map fun v => v.category).sum ≤ 8) (hdg : decode cc pc = .ok (.invokestatic index, 3)) (hf : cells + mc ≤ R.cells ∧ slots + ms ≤ R.slots)
    (kk : ∀ (r : Int64) (u : hp_M) (H1 : Heap) (locs1 : List Loc), post r u → hp_w D cl tys E A s H1 locs1 u → W p l e R s m args below meth c H1 locs1 (cells + mc) (slots + ms) Q (F0 m (pc + 3) ls (.long r :: rest))) : W p l e R s m args below meth c H locs cells slots Q (F0 m pc ls st0) := by
  obtain ⟨hx, hb, hr, hml, hown, hts, hlk, hnm⟩ := cx
  exact va_calll (va_runS (As := As) (rest := rest) ⟨hx, hb, hml, hown, hts⟩ hM cw ⟨hp_blind, hp_pre hw _⟩ rfl hn hsz hst (by simpa [F0] using hW) hdg hf) hw.2.1 (fun q _ h => hp_sub hw q h) (hp_sub hw) (fun r u t H1 locs1 ht hvm hp hB hz hk hS => kk r u H1 locs1 hp (hp_behind hw ht hvm hB hS))
theorem hp_callSr (cx : hp_C p c cc meth ret maxL s m args y Ts) (hw : hp_w D cl tys E A s H locs g) {post : Nat → hp_M → Prop} (hM : Met l y1 ws rm (hp_Pc D cl tys E H.size g As) (hp_Qr D cl tys H.size g post) mc ms (hp_A g H.size)) (cw : CallB R s args y.cls index y1 bytes maxL1 ret1 ws rm mc ms n ∧ (Cond.static y1).before args s = true) (hn : As.length = n) (hsz : ls.size = maxL) (hst : st0 = As.reverse ++ rest) (hW : (rest.map fun v => v.category).sum ≤ 8) (hdg : decode cc pc = .ok (.invokestatic index, 3)) (hf : cells + mc ≤ R.cells ∧ slots + ms ≤ R.slots)
    (kk : ∀ (r : Nat) (u : hp_M) (H1 : Heap) (locs1 : List Loc), post r u → hp_w D cl tys E A s H1 locs1 u → W p l e R s m args below meth c H1 locs1 (cells + mc) (slots + ms) Q (F0 m (pc + 3) ls (.ref r :: rest))) : W p l e R s m args below meth c H locs cells slots Q (F0 m pc ls st0) := by
  obtain ⟨hx, hb, hr, hml, hown, hts, hlk, hnm⟩ := cx
  exact va_callr (va_runS (As := As) (rest := rest) ⟨hx, hb, hml, hown, hts⟩ hM cw ⟨hp_blind, hp_pre hw _⟩ rfl hn hsz hst (by simpa [F0] using hW) hdg hf) hw.2.1 (fun q _ h => hp_sub hw q h) (hp_sub hw) (fun u r t H1 locs1 ht hvm _ hB hz hk hS => kk r u H1 locs1 hB.1 (hp_behind hw ht hvm hB.2 hS))
end HC
