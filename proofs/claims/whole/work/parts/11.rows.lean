/-- what a method's body knows of itself -/
def hp_C (p : Program) (c : Code) (cc : ByteArray) (meth : Method) (ret : Option FieldType) (maxL : Nat) (s : State) (m : MethodId) (args : Array Value) (y : MethodName) (Ts : List Cond) : Prop :=
  p.tables.exec = Jvm.exec ∧ c.code = cc ∧ meth.sig.returnType = ret ∧ c.maxLocals = maxL ∧ s.vm.findClass y.cls = some m.cls ∧ (∀ w ∈ Ts, w.before args s = true) ∧ meth.locks = false ∧ meth.name = y.name
theorem hp_blind {D : va_G} {cl : List vw_C} {tys : List (ClassId × FieldType)} {E : hp_N} {sz : Nat} {g : hp_M} {av : List Value} : FrameBlind (hp_Pc D cl tys E sz g av) := fun a U g mk q => by
  obtain ⟨q0, q1, ⟨qP, qK⟩, qG, qE⟩ := q
  exact ⟨q0, q1, ⟨qP, va_K.moved (u := U) (U := U.calling g mk a) (Vm.Alike.refl U.vm) qK⟩, qG, qG.2.2.1 _ U (U.calling g mk a) _ rfl qE⟩
theorem hp_ofW {l : Launch} {y : MethodName} {ws ws' : List Cond} {rm : Room} {D : va_G} {cl : List vw_C} {tys : List (ClassId × FieldType)} {E : hp_N} {sz : Nat} {g : hp_M} {as : List Value} {Qc : Array Value → State → Outcome → State → Prop} {mc ms : Nat} {cc : ByteArray} {maxL : Nat} {ret : Option FieldType}
    (hy : plainName y.cls = true) (hw : ws = Cond.code y cc maxL ret :: ws') (hlen : (lg_sl as).length ≤ maxL)
    (body : ∀ (p : Program) (e : Env) (s : State) (m : MethodId) (below : List Frame) (meth : Method) (c : Code) (ls : Array Slot), hp_C p c cc meth ret maxL s m as.toArray y ws → s.heap.size = sz → hp_w D cl tys E (hp_A g sz) s s.heap [] g → lv_has ls maxL (lv_args 0 as) →
      W p l e rm s m as.toArray below meth c s.heap [] 0 0 (MQ below Qc as.toArray s mc ms (hp_A g sz)) (F0 m 0 ls [])) : Met l y ws rm (hp_Pc D cl tys E sz g as) Qc mc ms (hp_A g sz) := by
  refine Met.ofW (cc := cc) (maxL := maxL) (ret := ret) hy hw ?_
  intro p e s m args below meth c s₁ B hml hv
  obtain ⟨rfl, hsz, ⟨hP, hK⟩, hG, hE⟩ := hv
  have hn := name_of_methodNamed B.named B.method
  have hl := lv_entry as (n := maxL) hlen
  rw [lg_entry_eq]
  refine body p e s m below meth c _ ⟨B.exec, B.bytes, B.returns, hml, findClass_of_methodNamed B.named, atoms_spec (ws := ws) B.pre, B.notSynchronized, hn.1⟩ hsz ⟨hp_self hP, va_S.rf, hK, fun q h => Or.inr (by rw [← hsz]; exact h), hG, hE⟩ hl
section HP
variable {p : Program} {l : Launch} {e : Env} {R : Room} {s : State} {m : MethodId} {args : Array Value} {below : List Frame} {meth : Method} {c : Code} {H : Heap} {locs : List Loc} {cells slots : Nat} {Q : State → Prop}
variable {cc : ByteArray} {ret : Option FieldType} {maxL : Nat} {y : MethodName} {Ts : List Cond} {pc : Nat} {ls : Array Slot} {rest : List Value} {D : va_G} {cl : List vw_C} {E : hp_N} {A : Nat → Prop} {a : Nat} {tys : List (ClassId × FieldType)} {g : hp_M}
theorem hp_get (cx : hp_C p c cc meth ret maxL s m args y Ts) (hw : hp_w D cl tys E A s H locs g) {C : String} {T : u_T} {N ci index : Nat} (hin : ∀ w ∈ u_ws C T N, w ∈ Ts) (hc : cl[ci]? = some (C, T, N)) {fs : List Value} (hg : g a = some (.inr (ci, fs))) (k : Nat) (hk : k < N) (hl : Cond.fieldLink y.cls index (T k).1 (T k).2.1 (T k).2.2.1 ∈ Ts) {v : Value} (hv : fs[k]? = some v) (hdg : decode cc pc = .ok (.getfield index, 3))
    (kk : W p l e R s m args below meth c H locs cells slots Q (F0 m (pc + 3) ls (v :: rest))) : W p l e R s m args below meth c H locs cells slots Q (F0 m pc ls (.ref a :: rest)) := by
  obtain ⟨hx, hb, hr, hml, hown, hts, hlk, hnm⟩ := cx
  obtain ⟨⟨L, f, h1, hP, hD⟩, hS, hK, hA, hG, hE⟩ := hw
  obtain ⟨q0, hq⟩ := hp_at h1 hg
  exact va_get hx hb hts hin hown hK hP q0 hq hc k hk (hts _ hl) (fun _ h => h) hv hdg kk
theorem hp_put (cx : hp_C p c cc meth ret maxL s m args y Ts) (hw : hp_w D cl tys E A s H locs g) {C : String} {T : u_T} {N ci index : Nat} (hin : ∀ w ∈ u_ws C T N, w ∈ Ts) {ty0 : Nat → FieldType} (hty : ∀ k, k < N → parseFieldDescriptor (T k).2.2.1 = some (ty0 k)) (hnm : ∀ a, a < N → ∀ b, b < N → a ≠ b → (T a).2.1 ≠ (T b).2.1) (hc : cl[ci]? = some (C, T, N)) {fs fs' : List Value} (hg : g a = some (.inr (ci, fs))) (k : Nat) (hk : k < N) (hl : Cond.fieldLink y.cls index (T k).1 (T k).2.1 (T k).2.2.1 ∈ Ts) (hfin : (T k).2.2.2 = false) {v : Value} (hn : narrow (ty0 k) v = v) (hfit : fits (ty0 k) v = true) (hle : k < fs.length) (hs : fs.set k v = fs') (hdg : decode cc pc = .ok (.putfield index, 3))
    (kk : ∀ (g1 : hp_M) (H1 : Heap) (locs1 : List Loc), g1 = hp_up g a (.inr (ci, fs')) → hp_w D cl tys E A s H1 locs1 g1 → W p l e R s m args below meth c H1 locs1 cells slots Q (F0 m (pc + 3) ls rest)) : W p l e R s m args below meth c H locs cells slots Q (F0 m pc ls (v :: .ref a :: rest)) := by
  obtain ⟨hx, hb, hr, hml, hown, hts, hlk, hnm2⟩ := cx
  obtain ⟨⟨L, f, h1, hP, hD⟩, hS, hK, hA, hG, hE⟩ := hw
  obtain ⟨q0, hq⟩ := hp_at h1 hg
  subst hs
  exact va_put hx hb hts hin ty0 hty hnm hown hK hP hD hS q0 hq hc k hk (hts _ hl) (fun _ h => h) hfin (hty k hk) hn hfit hle hdg (fun H1 locs1 hP1 hD1 hS1 => kk _ H1 locs1 rfl ⟨hp_set h1 hq hD hP1 hD1, hS1, hK, hA, hG, hE⟩)
theorem hp_putF (cx : hp_C p c cc meth ret maxL s m args y Ts) (hw : hp_w D cl tys E A s H locs g) {C : String} {T : u_T} {N ci index : Nat} (hin : ∀ w ∈ u_ws C T N, w ∈ Ts) {ty0 : Nat → FieldType} (hty : ∀ k, k < N → parseFieldDescriptor (T k).2.2.1 = some (ty0 k)) (hnm : ∀ a, a < N → ∀ b, b < N → a ≠ b → (T a).2.1 ≠ (T b).2.1) (hc : cl[ci]? = some (C, T, N)) {fs fs' : List Value} (hg : g a = some (.inr (ci, fs))) (k : Nat) (hk : k < N) (hl : Cond.fieldLink y.cls index (T k).1 (T k).2.1 (T k).2.2.1 ∈ Ts) (hfin : (T k).2.2.2 = true) (hyn : y.name = "<init>") (hyc : (T k).1 = y.cls) {v : Value} (hn : narrow (ty0 k) v = v) (hfit : fits (ty0 k) v = true) (hle : k < fs.length) (hs : fs.set k v = fs') (hdg : decode cc pc = .ok (.putfield index, 3))
    (kk : ∀ (g1 : hp_M) (H1 : Heap) (locs1 : List Loc), g1 = hp_up g a (.inr (ci, fs')) → hp_w D cl tys E A s H1 locs1 g1 → W p l e R s m args below meth c H1 locs1 cells slots Q (F0 m (pc + 3) ls rest)) : W p l e R s m args below meth c H locs cells slots Q (F0 m pc ls (v :: .ref a :: rest)) := by
  obtain ⟨hx, hb, hr, hml, hown, hts, hlk, hnm2⟩ := cx
  obtain ⟨⟨L, f, h1, hP, hD⟩, hS, hK, hA, hG, hE⟩ := hw
  obtain ⟨q0, hq⟩ := hp_at h1 hg
  subst hs
  exact va_putF hx hb hts hin ty0 hty hnm hown hK hP hD hS q0 hq hc k hk (hts _ hl) (fun _ h => h) hfin (hnm2.trans hyn) hyc (hty k hk) hn hfit hle hdg (fun H1 locs1 hP1 hD1 hS1 => kk _ H1 locs1 rfl ⟨hp_set h1 hq hD hP1 hD1, hS1, hK, hA, hG, hE⟩)
theorem hp_new (cx : hp_C p c cc meth ret maxL s m args y Ts) (hw : hp_w D cl tys E A s H locs g) {C : String} {T : u_T} {N ci index : Nat} (hin : ∀ w ∈ u_ws C T N, w ∈ Ts) {ty0 : Nat → FieldType} (hty : ∀ k, k < N → parseFieldDescriptor (T k).2.2.1 = some (ty0 k)) (hc : cl[ci]? = some (C, T, N)) (h1 : Cond.classLink y.cls index C ∈ Ts) (h2 : Cond.instantiable C N ∈ Ts) (h3 : Cond.initialized C ∈ Ts) {fs : List Value} (hfs : ∀ j, j < N → defaultValue (ty0 j) = vp_V fs j) (hcells : cells + 1 ≤ R.cells) (hslots : slots + N ≤ R.slots) (hdg : decode cc pc = .ok (.new index, 3))
    (kk : ∀ (q : Nat) (g1 : hp_M) (H1 : Heap), g q = none → g1 = hp_up g q (.inr (ci, fs)) → hp_w D cl tys E A s H1 locs g1 → W p l e R s m args below meth c H1 locs (cells + 1) (slots + N) Q (F0 m (pc + 3) ls (.ref q :: rest))) : W p l e R s m args below meth c H locs cells slots Q (F0 m pc ls rest) := by
  obtain ⟨hx, hb, hr, hml, hown, hts, hlk, hnm2⟩ := cx
  obtain ⟨⟨L, f, h4, hP, hD⟩, hS, hK, hA, hG, hE⟩ := hw
  exact va_new hx hb hts hin ty0 hty hown (hts _ h1) (hts _ h2) (hts _ h3) hK hP hD hS hA hc hfs hcells hslots hdg (fun q H1 hP1 hD1 hS1 => by
    obtain ⟨e1, e2⟩ := hp_push h4 hP1 hD1
    exact kk q _ H1 e1 rfl ⟨e2, hS1, hK, hA, hG, hE⟩)
/-- an array class has one number -/
theorem hp_one {ty : FieldType} {U : State} {c1 c2 : ClassId} (h1 : va_RA U c1 ty) (h2 : va_RA U c2 ty) : c1 = c2 := by
  cases ty with
  | object C =>
    obtain ⟨_, _, _, _, _, h3⟩ := h1
    obtain ⟨_, _, _, _, _, h4⟩ := h2
    exact Option.some.inj (h3.symm.trans h4)
  | _ => exact Option.some.inj (Eq.trans (Eq.symm h1) h2)
theorem hp_newa (cx : hp_C p c cc meth ret maxL s m args y Ts) (hw : hp_w D cl tys E A s H locs g) {atype : ArrayType} (harr : Cond.arrayClass (newarray.typeOf atype) ∈ Ts) (t0 : Nat) {cA : ClassId} {ty : FieldType} (ht : tys[t0]? = some (cA, ty)) (hty : newarray.typeOf atype = ty) {n : Int32} {N' : Nat} {a0 : vp_A} (ha : ∀ cA : ClassId, vp_cell cA a0 = arrV cA N' (fun _ => defaultValue ty)) (hn : ¬ n < 0) (hN : n.toNatClampNeg = N') (hbytes : N' * componentBytes ty ≤ 536870912) (hcells : cells + 1 ≤ R.cells) (hslots : slots + N' ≤ R.slots) (hdg : decode cc pc = .ok (.newarray atype, 2))
    (kk : ∀ (q : Nat) (g1 : hp_M) (H1 : Heap), g q = none → g1 = hp_up g q (.inl (cA, a0)) → hp_w D cl tys E A s H1 locs g1 → W p l e R s m args below meth c H1 locs (cells + 1) (slots + N') Q (F0 m (pc + 2) ls (.ref q :: rest))) : W p l e R s m args below meth c H locs cells slots Q (F0 m pc ls (.int n :: rest)) := by
  obtain ⟨hx, hb, hr, hml, hown, hts, hlk, hnm2⟩ := cx
  obtain ⟨⟨L, f, h4, hP, hD⟩, hS, hK, hA, hG, hE⟩ := hw
  exact va_newa hx hb (hts _ harr) hty hK hP hD hS hA ha hn hN hbytes hcells hslots hdg (fun q cA1 H1 hK1 hP1 hD1 hS1 => by
    have he : cA1 = cA := hp_one (hK1.2 tys.length (cA1, ty) (by simp)).2 (hK.2 t0 _ ht).2
    subst he
    obtain ⟨e1, e2⟩ := hp_push h4 hP1 hD1
    exact kk q _ H1 e1 rfl ⟨e2, hS1, hK, hA, hG, hE⟩)
theorem hp_newq (cx : hp_C p c cc meth ret maxL s m args y Ts) (hw : hp_w D cl tys E A s H locs g) {C : String} {index : Nat} (h1 : Cond.classLink y.cls index C ∈ Ts) (hover : va_AO C s) (t0 : Nat) {cA : ClassId} (ht : tys[t0]? = some (cA, .object C)) {n : Int32} {N' : Nat} (hn : ¬ n < 0) (hN : n.toNatClampNeg = N') (hbytes : N' * 4 ≤ 536870912) (hcells : cells + 1 ≤ R.cells) (hslots : slots + N' ≤ R.slots) (hdg : decode cc pc = .ok (.anewarray index, 3))
    (kk : ∀ (q : Nat) (g1 : hp_M) (H1 : Heap), g q = none → g1 = hp_up g q (.inl (cA, N', .inr (.inr (.inr (.inr (fun _ => none)))))) → hp_w D cl tys E A s H1 locs g1 → W p l e R s m args below meth c H1 locs (cells + 1) (slots + N') Q (F0 m (pc + 3) ls (.ref q :: rest))) : W p l e R s m args below meth c H locs cells slots Q (F0 m pc ls (.int n :: rest)) := by
  obtain ⟨hx, hb, hr, hml, hown, hts, hlk, hnm2⟩ := cx
  obtain ⟨⟨L, f, h4, hP, hD⟩, hS, hK, hA, hG, hE⟩ := hw
  exact va_newq hx hb hown (hts _ h1) hover hK hP hD hS hA hn hN hbytes hcells hslots hdg (fun q cA1 H1 hK1 hP1 hD1 hS1 => by
    have he : cA1 = cA := hp_one (hK1.2 tys.length (cA1, .object C) (by simp)).2 (hK.2 t0 _ ht).2
    subst he
    obtain ⟨e1, e2⟩ := hp_push h4 hP1 hD1
    exact kk q _ H1 e1 rfl ⟨e2, hS1, hK, hA, hG, hE⟩)
theorem hp_alen (cx : hp_C p c cc meth ret maxL s m args y Ts) (hw : hp_w D cl tys E A s H locs g) (t0 : Nat) {cA : ClassId} {x : vp_A} (hg : g a = some (.inl (cA, x))) {ty : FieldType} (ht : tys[t0]? = some (cA, ty)) {v : Int32} (hv : Int32.ofNat x.1 = v) (hdg : decode cc pc = .ok (.arraylength, 1))
    (kk : W p l e R s m args below meth c H locs cells slots Q (F0 m (pc + 1) ls (.int v :: rest))) : W p l e R s m args below meth c H locs cells slots Q (F0 m pc ls (.ref a :: rest)) := by
  obtain ⟨hx, hb, -⟩ := cx
  obtain ⟨⟨L, f, h1, hP, hD⟩, hS, hK, hA, hG, hE⟩ := hw
  obtain ⟨q0, hq⟩ := hp_at h1 hg
  exact va_alen hx hb hK hP q0 t0 hq ht hv hdg kk
end HP
