/-! reads and writes, over the class's state -/
theorem cd_ldAs {s : cd_S} {f i : Nat} {j v : Int32} (h : cldA s f i j = some v) : vp_in j (cd_alen f) ∧ s.2.2.1 f i j.toNatClampNeg = v := by
  unfold cldA at h
  split at h
  · rename_i q; exact ⟨vp_in_iff.mpr q, Option.some.inj h⟩
  · cases h
theorem cd_ldLs {s : cd_S} {f i : Nat} {j : Int32} {v : Int64} (h : cldL s f i j = some v) : vp_in j (cd_alen f) ∧ s.2.2.2.1 f i j.toNatClampNeg = v := by
  unfold cldL at h
  split at h
  · rename_i q; exact ⟨vp_in_iff.mpr q, Option.some.inj h⟩
  · cases h
theorem cd_ldFs {s : cd_S} {i : Nat} {j : Int32} {v : Int64} (h : cldF s i j = some v) : vp_in j (s.2.2.2.2.2.1 i) ∧ s.2.2.2.2.2.2 i j.toNatClampNeg = v := by
  unfold cldF at h
  split at h
  · rename_i q; exact ⟨vp_in_iff.mpr q, Option.some.inj h⟩
  · cases h
theorem cd_in_nat {j : Int32} {n : Nat} (h : vp_in j n) : j.toNatClampNeg < n := by
  have h2 := vp_in_iff.mp h
  have h3 : j.toNatClampNeg = j.toInt.toNat := rfl
  omega
theorem cd_ldRs {f : Nat} {j : Int32} {u : Nat} (h : cldR f j = some u) : vp_in j (cd_alen f) ∧ cd_ob f + j.toNatClampNeg = u ∧ u < cd_ob f + cd_alen f := by
  unfold cldR at h
  split at h
  · rename_i q
    have e := Option.some.inj h
    have := cd_in_nat (vp_in_iff.mpr q)
    exact ⟨vp_in_iff.mpr q, e, by omega⟩
  · cases h
theorem cd_stAs {s s1 : cd_S} {f i : Nat} {j v : Int32} (h : cstA s f i j v = some s1) : vp_in j (cd_alen f) ∧ cSA s f i j.toNatClampNeg v = s1 := by
  unfold cstA at h
  split at h
  · rename_i q; exact ⟨vp_in_iff.mpr q, Option.some.inj h⟩
  · cases h
theorem cd_stBs {s s1 : cd_S} {f i : Nat} {j v : Int32} (h : cstB s f i j v = some s1) : vp_in j (cd_alen f) ∧ cSA s f i j.toNatClampNeg (vp_nar .byte v) = s1 := by
  unfold cstB at h
  split at h
  · rename_i q; exact ⟨vp_in_iff.mpr q, Option.some.inj h⟩
  · cases h
theorem cd_stZs {s s1 : cd_S} {f i : Nat} {j v : Int32} (h : cstZ s f i j v = some s1) : vp_in j (cd_alen f) ∧ cSA s f i j.toNatClampNeg (vp_nar .boolean v) = s1 := by
  unfold cstZ at h
  split at h
  · rename_i q; exact ⟨vp_in_iff.mpr q, Option.some.inj h⟩
  · cases h
theorem cd_stLs {s s1 : cd_S} {f i : Nat} {j : Int32} {v : Int64} (h : cstL s f i j v = some s1) : vp_in j (cd_alen f) ∧ cSL s f i j.toNatClampNeg v = s1 := by
  unfold cstL at h
  split at h
  · rename_i q; exact ⟨vp_in_iff.mpr q, Option.some.inj h⟩
  · cases h
theorem cd_stFs {s s1 : cd_S} {i : Nat} {j : Int32} {v : Int64} (h : cstF s i j v = some s1) : vp_in j (s.2.2.2.2.2.1 i) ∧ cSF s i j.toNatClampNeg v = s1 := by
  unfold cstF at h
  split at h
  · rename_i q; exact ⟨vp_in_iff.mpr q, Option.some.inj h⟩
  · cases h
theorem cd_dps {s : cd_S} {f i u : Nat} (h : cd_dp s f i = some u) : s.2.2.2.2.1 f i = u + 1 ∧ u < cd_pool (cd_oc f) := by
  unfold cd_dp at h
  split at h
  · rename_i q
    have e := Option.some.inj h
    exact ⟨by omega, by omega⟩
  · cases h
theorem cd_txs {s : cd_S} {u : Nat} (h : cd_tx s = some u) : s.2.2.2.2.1 323 0 = 1 := by
  unfold cd_tx at h
  split at h
  · rename_i q; exact q
  · cases h
theorem cd_cks {α : Type} {fb : α → cd_B} {b : cd_B} {r : Option α} {q : α} (h : cd_ck fb b r = some q) : (fb q).1 ≤ b.1 ∧ (fb q).2 ≤ b.2 ∧ r = some q := by
  obtain ⟨a, e, h⟩ := md_ob h
  split at h
  · rename_i g
    obtain rfl := Option.some.inj h
    exact ⟨g.1, g.2, e⟩
  · cases h
theorem cd_ret {α : Type} {v : α} {cA : Nat → ClassId} {ad : Nat → Nat → Nat} {ca : Nat → Nat} {s : cd_S} {p : α × cd_S} (hj : cd_inj ad ca) (h : some (v, s) = some p) : v = p.1 ∧ ∃ ca', cd_inj ad ca' ∧ cd_pic cA ad ca s = cd_pic cA ad ca' p.2 := by
  obtain rfl := Option.some.inj h
  exact ⟨rfl, ca, hj, rfl⟩
theorem cd_retb {α : Type} {v : α} {cA : Nat → ClassId} {ad : Nat → Nat → Nat} {ca : Nat → Nat} {s : cd_S} {b : cd_B} {p : α × cd_S × cd_B} (hj : cd_inj ad ca) (h : some (v, s, b) = some p) : v = p.1 ∧ ∃ ca', cd_inj ad ca' ∧ cd_pic cA ad ca s = cd_pic cA ad ca' p.2.1 := by
  obtain rfl := Option.some.inj h
  exact ⟨rfl, ca, hj, rfl⟩
theorem cd_le1 {α : Type} {v : α} {s : cd_S} {b0 b : cd_B} {p : α × cd_S × cd_B} (h : some (v, s, b) = some p) : b0.1 - b.1 ≤ b0.1 - p.2.2.1 := by
  obtain rfl := Option.some.inj h
  exact Nat.le_refl _
theorem cd_le2 {α : Type} {v : α} {s : cd_S} {b0 b : cd_B} {p : α × cd_S × cd_B} (h : some (v, s, b) = some p) : b0.2 - b.2 ≤ b0.2 - p.2.2.2 := by
  obtain rfl := Option.some.inj h
  exact Nat.le_refl _
theorem cd_ra {ad : Nat → Nat → Nat} {o v N : Nat} {P : Prop} {w : Nat} (h : v = w ∧ P) (hN : v < N) : (w < N ∧ ad o v = ad o w) ∧ P := by
  obtain ⟨rfl, h⟩ := h
  exact ⟨⟨hN, rfl⟩, h⟩
theorem cd_adi {ad : Nat → Nat → Nat} {ca : Nat → Nat} (hj : cd_inj ad ca) {c i j : Nat} (hc : c < 12) (hi : i < cd_pool c) (hk : j < cd_pool c) (h : ad c i = ad c j) : i = j := by
  have := hj _ (cd_inO hc hi) _ (cd_inO hc hk) (by unfold cd_AD; dsimp only; rw [if_neg (by omega), if_neg (by omega)]; exact h)
  exact congrArg Prod.snd this
section CD
variable {p : Program} {l : Launch} {e : Env} {R : Room} {s : State} {m : MethodId} {args : Array Value} {below : List Frame} {meth : Method} {c : Code} {H : Heap} {locs : List Loc} {cells slots : Nat} {Q : State → Prop}
variable {cc : ByteArray} {ret : Option FieldType} {maxL : Nat} {y : MethodName} {Ts : List Cond} {pc : Nat} {ls : Array Slot} {rest : List Value} {D : va_G} {E : hp_N} {A : Nat → Prop} {cA : Nat → ClassId} {ad : Nat → Nat → Nat} {ca : Nat → Nat} {σ σ1 : cd_S} {o k i f index N : Nat} {C : String} {T : u_T}
theorem cd_gI (hj : cd_inj ad ca) (cx : hp_C p c cc meth ret maxL s m args y Ts) (hw : hp_w D vwCl (hp_Tl cA) E A s H locs (cd_pic cA ad ca σ)) (hin : ∀ w ∈ u_ws C T N, w ∈ Ts) (hc : vwCl[o]? = some (C, T, N)) (ht : o < 12 ∧ cd_nf o = N ∧ k < N ∧ f = 32 * o + k) (hk : cd_kind f = 0) (hi : i < cd_pool o) (hl : Cond.fieldLink y.cls index (T k).1 (T k).2.1 (T k).2.2.1 ∈ Ts) (hdg : decode cc pc = .ok (.getfield index, 3)) (kk : W p l e R s m args below meth c H locs cells slots Q (F0 m (pc + 3) ls (.int (cI σ f i) :: rest))) : W p l e R s m args below meth c H locs cells slots Q (F0 m pc ls (.ref (ad o i) :: rest)) := by
  obtain ⟨h1, h2, h3, rfl⟩ := ht
  refine hp_get (C := C) (T := T) (N := N) (ci := o) cx hw hin hc (cd_atO hj h1 hi) k h3 hl (v := .int (cI σ (32 * o + k) i)) ?_ hdg kk
  rw [cd_fsget (by rw [h2]; exact h3)]
  unfold cd_val
  rw [if_pos hk]
theorem cd_gJ (hj : cd_inj ad ca) (cx : hp_C p c cc meth ret maxL s m args y Ts) (hw : hp_w D vwCl (hp_Tl cA) E A s H locs (cd_pic cA ad ca σ)) (hin : ∀ w ∈ u_ws C T N, w ∈ Ts) (hc : vwCl[o]? = some (C, T, N)) (ht : o < 12 ∧ cd_nf o = N ∧ k < N ∧ f = 32 * o + k) (hk : cd_kind f = 1) (hi : i < cd_pool o) (hl : Cond.fieldLink y.cls index (T k).1 (T k).2.1 (T k).2.2.1 ∈ Ts) (hdg : decode cc pc = .ok (.getfield index, 3)) (kk : W p l e R s m args below meth c H locs cells slots Q (F0 m (pc + 3) ls (.long (cJ σ f i) :: rest))) : W p l e R s m args below meth c H locs cells slots Q (F0 m pc ls (.ref (ad o i) :: rest)) := by
  obtain ⟨h1, h2, h3, rfl⟩ := ht
  refine hp_get (C := C) (T := T) (N := N) (ci := o) cx hw hin hc (cd_atO hj h1 hi) k h3 hl (v := .long (cJ σ (32 * o + k) i)) ?_ hdg kk
  rw [cd_fsget (by rw [h2]; exact h3)]
  unfold cd_val
  rw [if_neg (by rw [hk]; decide), if_pos hk]
theorem cd_gA (hj : cd_inj ad ca) (cx : hp_C p c cc meth ret maxL s m args y Ts) (hw : hp_w D vwCl (hp_Tl cA) E A s H locs (cd_pic cA ad ca σ)) (hin : ∀ w ∈ u_ws C T N, w ∈ Ts) (hc : vwCl[o]? = some (C, T, N)) (ht : o < 12 ∧ cd_nf o = N ∧ k < N ∧ f = 32 * o + k) (hk : cd_kind f = 2) (hi : i < cd_pool o) (hl : Cond.fieldLink y.cls index (T k).1 (T k).2.1 (T k).2.2.1 ∈ Ts) (hdg : decode cc pc = .ok (.getfield index, 3)) (kk : W p l e R s m args below meth c H locs cells slots Q (F0 m (pc + 3) ls (.ref (ad (100 + f) i) :: rest))) : W p l e R s m args below meth c H locs cells slots Q (F0 m pc ls (.ref (ad o i) :: rest)) := by
  obtain ⟨h1, h2, h3, rfl⟩ := ht
  refine hp_get (C := C) (T := T) (N := N) (ci := o) cx hw hin hc (cd_atO hj h1 hi) k h3 hl (v := .ref (ad (100 + (32 * o + k)) i)) ?_ hdg kk
  rw [cd_fsget (by rw [h2]; exact h3)]
  unfold cd_val
  rw [if_neg (by rw [hk]; decide), if_neg (by rw [hk]; decide), if_pos hk]
theorem cd_gO (hj : cd_inj ad ca) (cx : hp_C p c cc meth ret maxL s m args y Ts) (hw : hp_w D vwCl (hp_Tl cA) E A s H locs (cd_pic cA ad ca σ)) (hin : ∀ w ∈ u_ws C T N, w ∈ Ts) (hc : vwCl[o]? = some (C, T, N)) (ht : o < 12 ∧ cd_nf o = N ∧ k < N ∧ f = 32 * o + k) (hk : cd_kind f = 3) (hi : i < cd_pool o) {o2 e2 : Nat} (he : cd_oc f = o2 ∧ cd_ob f + cd_om f * i = e2) (hl : Cond.fieldLink y.cls index (T k).1 (T k).2.1 (T k).2.2.1 ∈ Ts) (hdg : decode cc pc = .ok (.getfield index, 3)) (kk : W p l e R s m args below meth c H locs cells slots Q (F0 m (pc + 3) ls (.ref (ad o2 e2) :: rest))) : W p l e R s m args below meth c H locs cells slots Q (F0 m pc ls (.ref (ad o i) :: rest)) := by
  obtain ⟨h1, h2, h3, rfl⟩ := ht
  refine hp_get (C := C) (T := T) (N := N) (ci := o) cx hw hin hc (cd_atO hj h1 hi) k h3 hl (v := .ref (ad o2 e2)) ?_ hdg kk
  rw [cd_fsget (by rw [h2]; exact h3)]
  unfold cd_val
  rw [if_neg (by rw [hk]; decide), if_neg (by rw [hk]; decide), if_neg (by rw [hk]; decide), if_pos hk, he.1, he.2]
theorem cd_gP (hj : cd_inj ad ca) (cx : hp_C p c cc meth ret maxL s m args y Ts) (hw : hp_w D vwCl (hp_Tl cA) E A s H locs (cd_pic cA ad ca σ)) (hin : ∀ w ∈ u_ws C T N, w ∈ Ts) (hc : vwCl[o]? = some (C, T, N)) (ht : o < 12 ∧ cd_nf o = N ∧ k < N ∧ f = 32 * o + k) (hk : cd_kind f = 4) (hi : i < cd_pool o) {o2 u : Nat} (he : cd_oc f = o2) (hu : cd_dp σ f i = some u) (hl : Cond.fieldLink y.cls index (T k).1 (T k).2.1 (T k).2.2.1 ∈ Ts) (hdg : decode cc pc = .ok (.getfield index, 3)) (kk : W p l e R s m args below meth c H locs cells slots Q (F0 m (pc + 3) ls (.ref (ad o2 u) :: rest))) : W p l e R s m args below meth c H locs cells slots Q (F0 m pc ls (.ref (ad o i) :: rest)) := by
  obtain ⟨h1, h2, h3, rfl⟩ := ht
  refine hp_get (C := C) (T := T) (N := N) (ci := o) cx hw hin hc (cd_atO hj h1 hi) k h3 hl (v := .ref (ad o2 u)) ?_ hdg kk
  rw [cd_fsget (by rw [h2]; exact h3)]
  unfold cd_val
  have hq := cd_dps hu
  rw [if_neg (by rw [hk]; decide), if_neg (by rw [hk]; decide), if_neg (by rw [hk]; decide), if_neg (by rw [hk]; decide), if_pos hk, if_neg (by omega), he, show σ.2.2.2.2.1 (32 * o + k) i - 1 = u by omega]
theorem cd_gC (hj : cd_inj ad ca) (cx : hp_C p c cc meth ret maxL s m args y Ts) (hw : hp_w D vwCl (hp_Tl cA) E A s H locs (cd_pic cA ad ca σ)) (hin : ∀ w ∈ u_ws C T N, w ∈ Ts) (hc : vwCl[o]? = some (C, T, N)) (ht : o < 12 ∧ cd_nf o = N ∧ k < N ∧ f = 32 * o + k) (hk : cd_kind f = 5) (hi : i < cd_pool o) (hl : Cond.fieldLink y.cls index (T k).1 (T k).2.1 (T k).2.2.1 ∈ Ts) (hdg : decode cc pc = .ok (.getfield index, 3)) (kk : W p l e R s m args below meth c H locs cells slots Q (F0 m (pc + 3) ls (.ref (ca i) :: rest))) : W p l e R s m args below meth c H locs cells slots Q (F0 m pc ls (.ref (ad o i) :: rest)) := by
  obtain ⟨h1, h2, h3, rfl⟩ := ht
  refine hp_get (C := C) (T := T) (N := N) (ci := o) cx hw hin hc (cd_atO hj h1 hi) k h3 hl (v := .ref (ca i)) ?_ hdg kk
  rw [cd_fsget (by rw [h2]; exact h3)]
  unfold cd_val
  rw [if_neg (by rw [hk]; decide), if_neg (by rw [hk]; decide), if_neg (by rw [hk]; decide), if_neg (by rw [hk]; decide), if_neg (by rw [hk]; decide), if_pos hk]
theorem cd_gT (hj : cd_inj ad ca) (cx : hp_C p c cc meth ret maxL s m args y Ts) (hw : hp_w D vwCl (hp_Tl cA) E A s H locs (cd_pic cA ad ca σ)) (hin : ∀ w ∈ u_ws C T N, w ∈ Ts) (hc : vwCl[o]? = some (C, T, N)) (ht : o < 12 ∧ cd_nf o = N ∧ k < N ∧ f = 32 * o + k) (hk : cd_kind f = 6) (hi : i < cd_pool o) {u : Nat} (hf : f = 323 ∧ i = 0) (hu : cd_tx σ = some u) (hl : Cond.fieldLink y.cls index (T k).1 (T k).2.1 (T k).2.2.1 ∈ Ts) (hdg : decode cc pc = .ok (.getfield index, 3)) (kk : W p l e R s m args below meth c H locs cells slots Q (F0 m (pc + 3) ls (.ref (ad 452 0) :: rest))) : W p l e R s m args below meth c H locs cells slots Q (F0 m pc ls (.ref (ad o i) :: rest)) := by
  obtain ⟨h1, h2, h3, rfl⟩ := ht
  refine hp_get (C := C) (T := T) (N := N) (ci := o) cx hw hin hc (cd_atO hj h1 hi) k h3 hl (v := .ref (ad 452 0)) ?_ hdg kk
  rw [cd_fsget (by rw [h2]; exact h3)]
  unfold cd_val
  have hq := cd_txs hu
  rw [if_neg (by rw [hk]; decide), if_neg (by rw [hk]; decide), if_neg (by rw [hk]; decide), if_neg (by rw [hk]; decide), if_neg (by rw [hk]; decide), if_neg (by rw [hk]; decide), hf.1, hf.2, if_neg (by omega)]
theorem cd_pI (hj : cd_inj ad ca) (cx : hp_C p c cc meth ret maxL s m args y Ts) (hw : hp_w D vwCl (hp_Tl cA) E A s H locs (cd_pic cA ad ca σ)) (hin : ∀ w ∈ u_ws C T N, w ∈ Ts) (hc : vwCl[o]? = some (C, T, N)) (ht : o < 12 ∧ cd_nf o = N ∧ k < N ∧ f = 32 * o + k) {ty0 : Nat → FieldType} (hty : ∀ k, k < N → parseFieldDescriptor (T k).2.2.1 = some (ty0 k)) (hnm : ∀ a, a < N → ∀ b, b < N → a ≠ b → (T a).2.1 ≠ (T b).2.1) (hk : cd_kind f = 0) (hi : i < cd_pool o) (hfin : (T k).2.2.2 = false) (hl : Cond.fieldLink y.cls index (T k).1 (T k).2.1 (T k).2.2.1 ∈ Ts) (ht0 : ty0 k = .int) {v : Int32} (he : some (cSI σ f i v) = some σ1) (hdg : decode cc pc = .ok (.putfield index, 3)) (kk : ∀ (H1 : Heap) (locs1 : List Loc), hp_w D vwCl (hp_Tl cA) E A s H1 locs1 (cd_pic cA ad ca σ1) → W p l e R s m args below meth c H1 locs1 cells slots Q (F0 m (pc + 3) ls (rest))) : W p l e R s m args below meth c H locs cells slots Q (F0 m pc ls (.int v :: .ref (ad o i) :: rest)) := by
  obtain ⟨h1, h2, h3, rfl⟩ := ht
  obtain rfl := Option.some.inj he
  refine hp_put (C := C) (T := T) (N := N) (ci := o) cx hw hin hty hnm hc (cd_atO hj h1 hi) k h3 hl hfin (v := .int v) (by rw [ht0]; rfl) (by rw [ht0]; rfl) (by rw [cd_fslen, h2]; exact h3) rfl hdg (fun g1 H1 locs1 eg hw1 => ?_)
  rw [cd_setI hj h1 hi (by rw [h2]; exact h3) hk] at eg
  subst eg
  exact kk H1 locs1 hw1
theorem cd_pZ (hj : cd_inj ad ca) (cx : hp_C p c cc meth ret maxL s m args y Ts) (hw : hp_w D vwCl (hp_Tl cA) E A s H locs (cd_pic cA ad ca σ)) (hin : ∀ w ∈ u_ws C T N, w ∈ Ts) (hc : vwCl[o]? = some (C, T, N)) (ht : o < 12 ∧ cd_nf o = N ∧ k < N ∧ f = 32 * o + k) {ty0 : Nat → FieldType} (hty : ∀ k, k < N → parseFieldDescriptor (T k).2.2.1 = some (ty0 k)) (hnm : ∀ a, a < N → ∀ b, b < N → a ≠ b → (T a).2.1 ≠ (T b).2.1) (hk : cd_kind f = 0) (hi : i < cd_pool o) (hfin : (T k).2.2.2 = false) (hl : Cond.fieldLink y.cls index (T k).1 (T k).2.1 (T k).2.2.1 ∈ Ts) (ht0 : ty0 k = .boolean) {v : Int32} (hnz : v = 0 ∨ v = 1) (he : some (cSI σ f i v) = some σ1) (hdg : decode cc pc = .ok (.putfield index, 3)) (kk : ∀ (H1 : Heap) (locs1 : List Loc), hp_w D vwCl (hp_Tl cA) E A s H1 locs1 (cd_pic cA ad ca σ1) → W p l e R s m args below meth c H1 locs1 cells slots Q (F0 m (pc + 3) ls (rest))) : W p l e R s m args below meth c H locs cells slots Q (F0 m pc ls (.int v :: .ref (ad o i) :: rest)) := by
  obtain ⟨h1, h2, h3, rfl⟩ := ht
  obtain rfl := Option.some.inj he
  refine hp_put (C := C) (T := T) (N := N) (ci := o) cx hw hin hty hnm hc (cd_atO hj h1 hi) k h3 hl hfin (v := .int v) (by rw [ht0]; exact md_nbn hnz) (by rw [ht0]; exact md_fitb hnz) (by rw [cd_fslen, h2]; exact h3) rfl hdg (fun g1 H1 locs1 eg hw1 => ?_)
  rw [cd_setI hj h1 hi (by rw [h2]; exact h3) hk] at eg
  subst eg
  exact kk H1 locs1 hw1
theorem cd_pJ (hj : cd_inj ad ca) (cx : hp_C p c cc meth ret maxL s m args y Ts) (hw : hp_w D vwCl (hp_Tl cA) E A s H locs (cd_pic cA ad ca σ)) (hin : ∀ w ∈ u_ws C T N, w ∈ Ts) (hc : vwCl[o]? = some (C, T, N)) (ht : o < 12 ∧ cd_nf o = N ∧ k < N ∧ f = 32 * o + k) {ty0 : Nat → FieldType} (hty : ∀ k, k < N → parseFieldDescriptor (T k).2.2.1 = some (ty0 k)) (hnm : ∀ a, a < N → ∀ b, b < N → a ≠ b → (T a).2.1 ≠ (T b).2.1) (hk : cd_kind f = 1) (hi : i < cd_pool o) (hfin : (T k).2.2.2 = false) (hl : Cond.fieldLink y.cls index (T k).1 (T k).2.1 (T k).2.2.1 ∈ Ts) (ht0 : ty0 k = .long) {v : Int64} (he : some (cSJ σ f i v) = some σ1) (hdg : decode cc pc = .ok (.putfield index, 3)) (kk : ∀ (H1 : Heap) (locs1 : List Loc), hp_w D vwCl (hp_Tl cA) E A s H1 locs1 (cd_pic cA ad ca σ1) → W p l e R s m args below meth c H1 locs1 cells slots Q (F0 m (pc + 3) ls (rest))) : W p l e R s m args below meth c H locs cells slots Q (F0 m pc ls (.long v :: .ref (ad o i) :: rest)) := by
  obtain ⟨h1, h2, h3, rfl⟩ := ht
  obtain rfl := Option.some.inj he
  refine hp_put (C := C) (T := T) (N := N) (ci := o) cx hw hin hty hnm hc (cd_atO hj h1 hi) k h3 hl hfin (v := .long v) (by rw [ht0]; rfl) (by rw [ht0]; rfl) (by rw [cd_fslen, h2]; exact h3) rfl hdg (fun g1 H1 locs1 eg hw1 => ?_)
  rw [cd_setJ hj h1 hi (by rw [h2]; exact h3) hk] at eg
  subst eg
  exact kk H1 locs1 hw1
theorem cd_pP (hj : cd_inj ad ca) (cx : hp_C p c cc meth ret maxL s m args y Ts) (hw : hp_w D vwCl (hp_Tl cA) E A s H locs (cd_pic cA ad ca σ)) (hin : ∀ w ∈ u_ws C T N, w ∈ Ts) (hc : vwCl[o]? = some (C, T, N)) (ht : o < 12 ∧ cd_nf o = N ∧ k < N ∧ f = 32 * o + k) {ty0 : Nat → FieldType} (hty : ∀ k, k < N → parseFieldDescriptor (T k).2.2.1 = some (ty0 k)) (hnm : ∀ a, a < N → ∀ b, b < N → a ≠ b → (T a).2.1 ≠ (T b).2.1) (hk : cd_kind f = 4) (hi : i < cd_pool o) (hfin : (T k).2.2.2 = false) (hl : Cond.fieldLink y.cls index (T k).1 (T k).2.1 (T k).2.2.1 ∈ Ts) {D0 : String} (ht0 : ty0 k = .object D0) {u o2 : Nat} (ho : cd_oc f = o2) (he : some (cSP σ f i (u + 1)) = some σ1) (hdg : decode cc pc = .ok (.putfield index, 3)) (kk : ∀ (H1 : Heap) (locs1 : List Loc), hp_w D vwCl (hp_Tl cA) E A s H1 locs1 (cd_pic cA ad ca σ1) → W p l e R s m args below meth c H1 locs1 cells slots Q (F0 m (pc + 3) ls (rest))) : W p l e R s m args below meth c H locs cells slots Q (F0 m pc ls (.ref (ad o2 u) :: .ref (ad o i) :: rest)) := by
  obtain ⟨h1, h2, h3, rfl⟩ := ht
  obtain rfl := Option.some.inj he
  refine hp_put (C := C) (T := T) (N := N) (ci := o) cx hw hin hty hnm hc (cd_atO hj h1 hi) k h3 hl hfin (v := .ref (ad o2 u)) (by rw [ht0]; rfl) (by rw [ht0]; rfl) (by rw [cd_fslen, h2]; exact h3) rfl hdg (fun g1 H1 locs1 eg hw1 => ?_)
  rw [← ho] at eg
  rw [cd_setP hj h1 hi (by rw [h2]; exact h3) hk] at eg
  subst eg
  exact kk H1 locs1 hw1
theorem cd_pT (hj : cd_inj ad ca) (cx : hp_C p c cc meth ret maxL s m args y Ts) (hw : hp_w D vwCl (hp_Tl cA) E A s H locs (cd_pic cA ad ca σ)) (hin : ∀ w ∈ u_ws C T N, w ∈ Ts) (hc : vwCl[o]? = some (C, T, N)) (ht : o < 12 ∧ cd_nf o = N ∧ k < N ∧ f = 32 * o + k) {ty0 : Nat → FieldType} (hty : ∀ k, k < N → parseFieldDescriptor (T k).2.2.1 = some (ty0 k)) (hnm : ∀ a, a < N → ∀ b, b < N → a ≠ b → (T a).2.1 ≠ (T b).2.1) (hk : cd_kind f = 6) (hi : i < cd_pool o) (hfin : (T k).2.2.2 = false) (hl : Cond.fieldLink y.cls index (T k).1 (T k).2.1 (T k).2.2.1 ∈ Ts) {D0 : FieldType} (ht0 : ty0 k = .array D0) (he : some (cSP σ f i 1) = some σ1) (hdg : decode cc pc = .ok (.putfield index, 3)) (kk : ∀ (H1 : Heap) (locs1 : List Loc), hp_w D vwCl (hp_Tl cA) E A s H1 locs1 (cd_pic cA ad ca σ1) → W p l e R s m args below meth c H1 locs1 cells slots Q (F0 m (pc + 3) ls (rest))) : W p l e R s m args below meth c H locs cells slots Q (F0 m pc ls (.ref (ad 452 0) :: .ref (ad o i) :: rest)) := by
  obtain ⟨h1, h2, h3, rfl⟩ := ht
  obtain rfl := Option.some.inj he
  refine hp_put (C := C) (T := T) (N := N) (ci := o) cx hw hin hty hnm hc (cd_atO hj h1 hi) k h3 hl hfin (v := .ref (ad 452 0)) (by rw [ht0]; rfl) (by rw [ht0]; rfl) (by rw [cd_fslen, h2]; exact h3) rfl hdg (fun g1 H1 locs1 eg hw1 => ?_)
  rw [cd_setT hj h1 hi (by rw [h2]; exact h3) hk] at eg
  subst eg
  exact kk H1 locs1 hw1
theorem cd_lI (hj : cd_inj ad ca) (cx : hp_C p c cc meth ret maxL s m args y Ts) (hw : hp_w D vwCl (hp_Tl cA) E A s H locs (cd_pic cA ad ca σ)) (hf : f ∈ cd_arrs) (hi : i < cd_pool (f / 32)) (hc : cd_act f = 1) {j : Int32} {v : Int32} (he : cldA σ f i j = some v) (hdg : decode cc pc = .ok (.iaload, 1)) (kk : W p l e R s m args below meth c H locs cells slots Q (F0 m (pc + 1) ls (.int v :: rest))) : W p l e R s m args below meth c H locs cells slots Q (F0 m pc ls (.int j :: .ref (ad (100 + f) i) :: rest)) := by
  obtain ⟨hb, rfl⟩ := cd_ldAs he
  exact hp_iald cx hw 1 (cd_atA hj hf hi (by rw [hc]; decide) (by rw [hc]; decide)) (by first | rfl | (rw [hc]; rfl)) hb hdg kk
theorem cd_lB (hj : cd_inj ad ca) (cx : hp_C p c cc meth ret maxL s m args y Ts) (hw : hp_w D vwCl (hp_Tl cA) E A s H locs (cd_pic cA ad ca σ)) (hf : f ∈ cd_arrs) (hi : i < cd_pool (f / 32)) (hc : cd_act f = 0) {j : Int32} {v : Int32} (he : cldA σ f i j = some v) (hdg : decode cc pc = .ok (.baload, 1)) (kk : W p l e R s m args below meth c H locs cells slots Q (F0 m (pc + 1) ls (.int v :: rest))) : W p l e R s m args below meth c H locs cells slots Q (F0 m pc ls (.int j :: .ref (ad (100 + f) i) :: rest)) := by
  obtain ⟨hb, rfl⟩ := cd_ldAs he
  exact hp_bald cx hw 0 (cd_atA hj hf hi (by rw [hc]; decide) (by rw [hc]; decide)) (by first | rfl | (rw [hc]; rfl)) hb hdg kk
theorem cd_lZ (hj : cd_inj ad ca) (cx : hp_C p c cc meth ret maxL s m args y Ts) (hw : hp_w D vwCl (hp_Tl cA) E A s H locs (cd_pic cA ad ca σ)) (hf : f ∈ cd_arrs) (hi : i < cd_pool (f / 32)) (hc : cd_act f = 3) {j : Int32} {v : Int32} (he : cldA σ f i j = some v) (hdg : decode cc pc = .ok (.baload, 1)) (kk : W p l e R s m args below meth c H locs cells slots Q (F0 m (pc + 1) ls (.int v :: rest))) : W p l e R s m args below meth c H locs cells slots Q (F0 m pc ls (.int j :: .ref (ad (100 + f) i) :: rest)) := by
  obtain ⟨hb, rfl⟩ := cd_ldAs he
  exact hp_zald cx hw 3 (cd_atA hj hf hi (by rw [hc]; decide) (by rw [hc]; decide)) (by first | rfl | (rw [hc]; rfl)) hb hdg kk
theorem cd_lJ (hj : cd_inj ad ca) (cx : hp_C p c cc meth ret maxL s m args y Ts) (hw : hp_w D vwCl (hp_Tl cA) E A s H locs (cd_pic cA ad ca σ)) (hf : f ∈ cd_arrs) (hi : i < cd_pool (f / 32)) (hc : cd_act f = 2) {j : Int32} {v : Int64} (he : cldL σ f i j = some v) (hdg : decode cc pc = .ok (.laload, 1)) (kk : W p l e R s m args below meth c H locs cells slots Q (F0 m (pc + 1) ls (.long v :: rest))) : W p l e R s m args below meth c H locs cells slots Q (F0 m pc ls (.int j :: .ref (ad (100 + f) i) :: rest)) := by
  obtain ⟨hb, rfl⟩ := cd_ldLs he
  exact hp_lald cx hw 2 (cd_atL hj hf hi hc) (by first | rfl | (rw [hc]; rfl)) hb hdg kk
theorem cd_sI (hj : cd_inj ad ca) (cx : hp_C p c cc meth ret maxL s m args y Ts) (hw : hp_w D vwCl (hp_Tl cA) E A s H locs (cd_pic cA ad ca σ)) (hf : f ∈ cd_arrs) (hi : i < cd_pool (f / 32)) (hc : cd_act f = 1) {j : Int32} {v : Int32} (he : cstA σ f i j v = some σ1) (hdg : decode cc pc = .ok (.iastore, 1)) (kk : ∀ (H1 : Heap) (locs1 : List Loc), hp_w D vwCl (hp_Tl cA) E A s H1 locs1 (cd_pic cA ad ca σ1) → W p l e R s m args below meth c H1 locs1 cells slots Q (F0 m (pc + 1) ls (rest))) : W p l e R s m args below meth c H locs cells slots Q (F0 m pc ls (.int v :: .int j :: .ref (ad (100 + f) i) :: rest)) := by
  obtain ⟨hb, rfl⟩ := cd_stAs he
  refine hp_iast cx hw 1 (cd_atA hj hf hi (by rw [hc]; decide) (by rw [hc]; decide)) (by first | rfl | (rw [hc]; rfl)) hb hdg (fun g1 H1 locs1 eg hw1 => ?_)
  rw [cd_setA hj hf hi (by rw [hc]; decide) (by rw [hc]; decide)] at eg
  subst eg
  exact kk H1 locs1 hw1
theorem cd_sB (hj : cd_inj ad ca) (cx : hp_C p c cc meth ret maxL s m args y Ts) (hw : hp_w D vwCl (hp_Tl cA) E A s H locs (cd_pic cA ad ca σ)) (hf : f ∈ cd_arrs) (hi : i < cd_pool (f / 32)) (hc : cd_act f = 0) {j : Int32} {v : Int32} (he : cstB σ f i j v = some σ1) (hdg : decode cc pc = .ok (.bastore, 1)) (kk : ∀ (H1 : Heap) (locs1 : List Loc), hp_w D vwCl (hp_Tl cA) E A s H1 locs1 (cd_pic cA ad ca σ1) → W p l e R s m args below meth c H1 locs1 cells slots Q (F0 m (pc + 1) ls (rest))) : W p l e R s m args below meth c H locs cells slots Q (F0 m pc ls (.int v :: .int j :: .ref (ad (100 + f) i) :: rest)) := by
  obtain ⟨hb, rfl⟩ := cd_stBs he
  refine hp_bast cx hw 0 (cd_atA hj hf hi (by rw [hc]; decide) (by rw [hc]; decide)) (by first | rfl | (rw [hc]; rfl)) hb hdg (fun g1 H1 locs1 eg hw1 => ?_)
  rw [cd_setA hj hf hi (by rw [hc]; decide) (by rw [hc]; decide)] at eg
  subst eg
  exact kk H1 locs1 hw1
theorem cd_sZ (hj : cd_inj ad ca) (cx : hp_C p c cc meth ret maxL s m args y Ts) (hw : hp_w D vwCl (hp_Tl cA) E A s H locs (cd_pic cA ad ca σ)) (hf : f ∈ cd_arrs) (hi : i < cd_pool (f / 32)) (hc : cd_act f = 3) {j : Int32} {v : Int32} (he : cstZ σ f i j v = some σ1) (hdg : decode cc pc = .ok (.bastore, 1)) (kk : ∀ (H1 : Heap) (locs1 : List Loc), hp_w D vwCl (hp_Tl cA) E A s H1 locs1 (cd_pic cA ad ca σ1) → W p l e R s m args below meth c H1 locs1 cells slots Q (F0 m (pc + 1) ls (rest))) : W p l e R s m args below meth c H locs cells slots Q (F0 m pc ls (.int v :: .int j :: .ref (ad (100 + f) i) :: rest)) := by
  obtain ⟨hb, rfl⟩ := cd_stZs he
  refine hp_zast cx hw 3 (cd_atA hj hf hi (by rw [hc]; decide) (by rw [hc]; decide)) (by first | rfl | (rw [hc]; rfl)) hb hdg (fun g1 H1 locs1 eg hw1 => ?_)
  rw [cd_setA hj hf hi (by rw [hc]; decide) (by rw [hc]; decide)] at eg
  subst eg
  exact kk H1 locs1 hw1
theorem cd_sJ (hj : cd_inj ad ca) (cx : hp_C p c cc meth ret maxL s m args y Ts) (hw : hp_w D vwCl (hp_Tl cA) E A s H locs (cd_pic cA ad ca σ)) (hf : f ∈ cd_arrs) (hi : i < cd_pool (f / 32)) (hc : cd_act f = 2) {j : Int32} {v : Int64} (he : cstL σ f i j v = some σ1) (hdg : decode cc pc = .ok (.lastore, 1)) (kk : ∀ (H1 : Heap) (locs1 : List Loc), hp_w D vwCl (hp_Tl cA) E A s H1 locs1 (cd_pic cA ad ca σ1) → W p l e R s m args below meth c H1 locs1 cells slots Q (F0 m (pc + 1) ls (rest))) : W p l e R s m args below meth c H locs cells slots Q (F0 m pc ls (.long v :: .int j :: .ref (ad (100 + f) i) :: rest)) := by
  obtain ⟨hb, rfl⟩ := cd_stLs he
  refine hp_last cx hw 2 (cd_atL hj hf hi hc) (by first | rfl | (rw [hc]; rfl)) hb hdg (fun g1 H1 locs1 eg hw1 => ?_)
  rw [cd_setL hj hf hi hc] at eg
  subst eg
  exact kk H1 locs1 hw1
theorem cd_lF (hj : cd_inj ad ca) (cx : hp_C p c cc meth ret maxL s m args y Ts) (hw : hp_w D vwCl (hp_Tl cA) E A s H locs (cd_pic cA ad ca σ)) (hi : i < 197) {j : Int32} {v : Int64} (he : cldF σ i j = some v) (hdg : decode cc pc = .ok (.laload, 1)) (kk : W p l e R s m args below meth c H locs cells slots Q (F0 m (pc + 1) ls (.long v :: rest))) : W p l e R s m args below meth c H locs cells slots Q (F0 m pc ls (.int j :: .ref (ca i) :: rest)) := by
  obtain ⟨hb, rfl⟩ := cd_ldFs he
  exact hp_lald cx hw 2 (cd_atC hj hi) rfl hb hdg kk
theorem cd_sF (hj : cd_inj ad ca) (cx : hp_C p c cc meth ret maxL s m args y Ts) (hw : hp_w D vwCl (hp_Tl cA) E A s H locs (cd_pic cA ad ca σ)) (hi : i < 197) {j : Int32} {v : Int64} (he : cstF σ i j v = some σ1) (hdg : decode cc pc = .ok (.lastore, 1)) (kk : ∀ (H1 : Heap) (locs1 : List Loc), hp_w D vwCl (hp_Tl cA) E A s H1 locs1 (cd_pic cA ad ca σ1) → W p l e R s m args below meth c H1 locs1 cells slots Q (F0 m (pc + 1) ls (rest))) : W p l e R s m args below meth c H locs cells slots Q (F0 m pc ls (.long v :: .int j :: .ref (ca i) :: rest)) := by
  obtain ⟨hb, rfl⟩ := cd_stFs he
  refine hp_last cx hw 2 (cd_atC hj hi) rfl hb hdg (fun g1 H1 locs1 eg hw1 => ?_)
  rw [cd_setF hj hi] at eg
  subst eg
  exact kk H1 locs1 hw1
theorem cd_lR (hj : cd_inj ad ca) (cx : hp_C p c cc meth ret maxL s m args y Ts) (hw : hp_w D vwCl (hp_Tl cA) E A s H locs (cd_pic cA ad ca σ)) (hf : f ∈ cd_arrs) (hi : i < cd_pool (f / 32)) {t0 : Nat} {C0 : String} (hc : cd_act f = t0) (h4 : 4 ≤ t0) (hty : (hp_Tl cA)[t0]? = some (cA t0, .object C0)) {o2 : Nat} (ho : cd_oc f = o2) {j : Int32} {u : Nat} (he : cldR f j = some u) (hdg : decode cc pc = .ok (.aaload, 1)) (kk : W p l e R s m args below meth c H locs cells slots Q (F0 m (pc + 1) ls (.ref (ad o2 u) :: rest))) : W p l e R s m args below meth c H locs cells slots Q (F0 m pc ls (.int j :: .ref (ad (100 + f) i) :: rest)) := by
  obtain ⟨hb, e1, e2⟩ := cd_ldRs he
  have hn := cd_in_nat hb
  have hg := cd_atR (cA := cA) (s := σ) hj hf hi (by omega)
  rw [hc] at hg
  refine hp_aald cx hw t0 hg hty hb hdg ?_
  rw [if_pos hn, ho, e1]
  exact kk
theorem cd_len (hj : cd_inj ad ca) (cx : hp_C p c cc meth ret maxL s m args y Ts) (hw : hp_w D vwCl (hp_Tl cA) E A s H locs (cd_pic cA ad ca σ)) (hf : f ∈ cd_arrs) (hi : i < cd_pool (f / 32)) (h4 : cd_act f < 4) (h2 : cd_act f ≠ 2) {v : Int32} (hv : Int32.ofNat (cd_alen f) = v) {ty : FieldType} (hty : (hp_Tl cA)[cd_act f]? = some (cA (cd_act f), ty)) (hdg : decode cc pc = .ok (.arraylength, 1)) (kk : W p l e R s m args below meth c H locs cells slots Q (F0 m (pc + 1) ls (.int v :: rest))) : W p l e R s m args below meth c H locs cells slots Q (F0 m pc ls (.ref (ad (100 + f) i) :: rest)) :=
  hp_alen cx hw (cd_act f) (cd_atA hj hf hi h4 h2) hty hv hdg kk
theorem cd_lenF (hj : cd_inj ad ca) (cx : hp_C p c cc meth ret maxL s m args y Ts) (hw : hp_w D vwCl (hp_Tl cA) E A s H locs (cd_pic cA ad ca σ)) (hi : i < 197) (hdg : decode cc pc = .ok (.arraylength, 1)) (kk : W p l e R s m args below meth c H locs cells slots Q (F0 m (pc + 1) ls (.int (Int32.ofNat (cRC σ i)) :: rest))) : W p l e R s m args below meth c H locs cells slots Q (F0 m pc ls (.ref (ca i) :: rest)) :=
  hp_alen cx hw 2 (cd_atC hj hi) rfl rfl hdg kk
theorem cd_acmp_eq {i2 j2 : Nat} {off : Int} {tgt : Nat} (hj : cd_inj ad ca) (ho : o < 12) (hoo : o < 12) (h1 : i2 < cd_pool o) (h2 : j2 < cd_pool o) (hexec : p.tables.exec = Jvm.exec) (hb : c.code = cc) (hdg : decode cc pc = .ok (.if_acmp .eq off, 3)) (ht : (pc : Int) + off = (tgt : Int)) (kt : i2 = j2 → W p l e R s m args below meth c H locs cells slots Q (F0 m tgt ls (rest))) (kf : ¬ i2 = j2 → W p l e R s m args below meth c H locs cells slots Q (F0 m (pc + 3) ls (rest))) : W p l e R s m args below meth c H locs cells slots Q (F0 m pc ls (.ref (ad o j2) :: .ref (ad o i2) :: rest)) :=
  lv_acmp_eq (rx := some (ad o i2)) (ry := some (ad o j2)) hexec hb hdg ht (fun q => kt (cd_adi hj ho h1 h2 (Option.some.inj q))) (fun q => kf (fun r => q (by rw [r])))
theorem cd_acmp_ne {i2 j2 : Nat} {off : Int} {tgt : Nat} (hj : cd_inj ad ca) (ho : o < 12) (hoo : o < 12) (h1 : i2 < cd_pool o) (h2 : j2 < cd_pool o) (hexec : p.tables.exec = Jvm.exec) (hb : c.code = cc) (hdg : decode cc pc = .ok (.if_acmp .ne off, 3)) (ht : (pc : Int) + off = (tgt : Int)) (kt : ¬ i2 = j2 → W p l e R s m args below meth c H locs cells slots Q (F0 m tgt ls (rest))) (kf : i2 = j2 → W p l e R s m args below meth c H locs cells slots Q (F0 m (pc + 3) ls (rest))) : W p l e R s m args below meth c H locs cells slots Q (F0 m pc ls (.ref (ad o j2) :: .ref (ad o i2) :: rest)) :=
  lv_acmp_ne (rx := some (ad o i2)) (ry := some (ad o j2)) hexec hb hdg ht (fun q => kt (fun r => q (by rw [r]))) (fun q => kf (cd_adi hj ho h1 h2 (Option.some.inj q)))
end CD
