/-! THE MODEL'S STATE, as numbers: ints, longs, arrays of ints, arrays of longs, each by the number of its field -/
def md_kinds : List Nat := [0, 2, 0, 2, 0, 0, 0, 0, 0, 0, 0, 0, 1, 3, 0, 0, 0, 3, 2, 2, 0, 0, 0, 2, 3, 0, 3, 2, 2, 3, 2, 2, 2, 2, 0, 0, 2, 2, 2, 2, 2, 2, 2, 3, 2, 2, 2, 2, 0, 3, 0, 2, 3, 2, 2, 2, 0, 2, 0, 2, 0, 3, 0, 0, 0, 0, 2, 2, 2, 2, 2, 2, 2, 0, 2, 0, 2, 2, 0, 0, 2, 0, 1, 2, 0, 0, 0, 0, 0, 0, 0, 0, 2, 0, 0, 0, 2, 2, 0, 2, 2, 0, 2, 2, 2, 0, 2, 2, 2, 2, 2, 2, 2, 2, 2, 2, 2, 2, 2, 2, 2, 2, 2, 2, 2, 2, 2, 0, 0, 0, 0, 2, 2, 2, 0, 0, 2]
def md_kind (k : Nat) : Nat := md_kinds.getD k 9
def md_cts : List Nat := [9, 1, 9, 1, 9, 9, 9, 9, 9, 9, 9, 9, 9, 2, 9, 9, 9, 2, 1, 1, 9, 9, 9, 1, 2, 9, 2, 1, 1, 2, 1, 1, 1, 1, 9, 9, 1, 1, 1, 1, 1, 1, 1, 2, 1, 1, 1, 3, 9, 2, 9, 1, 2, 1, 3, 1, 9, 1, 9, 1, 9, 2, 9, 9, 9, 9, 1, 1, 1, 1, 1, 1, 1, 9, 0, 9, 1, 1, 9, 9, 1, 9, 9, 1, 9, 9, 9, 9, 9, 9, 9, 9, 1, 9, 9, 9, 1, 1, 9, 1, 1, 9, 1, 1, 1, 9, 1, 1, 1, 1, 1, 1, 1, 1, 1, 1, 1, 1, 1, 1, 1, 1, 1, 1, 1, 1, 1, 9, 9, 9, 9, 1, 1, 1, 9, 9, 3]
def md_ct (k : Nat) : Nat := md_cts.getD k 9
def md_ars : List Nat := [1, 3, 13, 17, 18, 19, 23, 24, 26, 27, 28, 29, 30, 31, 32, 33, 36, 37, 38, 39, 40, 41, 42, 43, 44, 45, 46, 47, 49, 51, 52, 53, 54, 55, 57, 59, 61, 66, 67, 68, 69, 70, 71, 72, 74, 76, 77, 80, 83, 92, 96, 97, 99, 100, 102, 103, 104, 106, 107, 108, 109, 110, 111, 112, 113, 114, 115, 116, 117, 118, 119, 120, 121, 122, 123, 124, 125, 126, 131, 132, 133, 136]
/-! how a function that said some is taken apart -/
theorem md_ob {α β : Type} {x : Option α} {f : α → Option β} {y : β} (h : Option.bind x f = some y) : ∃ a, x = some a ∧ f a = some y := by
  cases x with
  | none => cases h
  | some a => exact ⟨a, rfl, h⟩
theorem md_ip {α : Type} {c : Prop} {i : Decidable c} {a b : Option α} {y : α} (hc : c) (h : (if c then a else b) = some y) : a = some y := by rwa [if_pos hc] at h
theorem md_in {α : Type} {c : Prop} {i : Decidable c} {a b : Option α} {y : α} (hc : ¬ c) (h : (if c then a else b) = some y) : b = some y := by rwa [if_neg hc] at h
theorem md_inr {α β γ : Type} {f : α → Option γ} {g : β → Option γ} {t : β} {y : γ} (h : Sum.elim f g (Sum.inr t) = some y) : g t = some y := h
theorem md_zbs {v z : Int32} (h : md_zb v = some z) : z = v ∧ (v = 0 ∨ v = 1) := by
  unfold md_zb at h
  split at h
  · rename_i q
    exact ⟨(Option.some.inj h).symm, q⟩
  · cases h
theorem md_nbn {v : Int32} (q : v = 0 ∨ v = 1) : narrow .boolean (.int v) = .int v := by rcases q with q | q <;> rw [q] <;> decide
theorem md_nzs {y : Int32} {z : Nat} (h : md_nz y = some z) : ¬ y = 0 := fun q => by
  rw [md_nz, if_pos q] at h
  cases h
theorem md_nei {x k : Int32} (h : ¬ x = k) : x.toInt ≠ k.toInt := fun q => h (Int32.toInt_inj.mp q)
/-! the picture of a state -/
def md_val (ad : Nat → Nat) (s : md_S) (k : Nat) : Value := if md_kind k = 0 then .int (s.1 k) else if md_kind k = 1 then .long (s.2.1 k) else .ref (ad k)
def md_fs (ad : Nat → Nat) (s : md_S) : List Value := (List.range 137).map (md_val ad s)
def md_arr (cA : Nat → ClassId) (s : md_S) (k : Nat) : va_E := if md_kind k = 3 then .inl (cA (md_ct k), md_len k, .inr (.inl (s.2.2.2 k))) else .inl (cA (md_ct k), md_len k, .inl (s.2.2.1 k))
def md_pic (cA : Nat → ClassId) (ad : Nat → Nat) (s : md_S) : hp_M := fun a => if a = ad 137 then some (.inr (12, md_fs ad s)) else (md_ars.find? (fun k => ad k == a)).map (md_arr cA s)
def md_inj (ad : Nat → Nat) : Prop := (∀ i ∈ md_ars, ∀ j ∈ md_ars, ad i = ad j → i = j) ∧ ∀ i ∈ md_ars, ad i ≠ ad 137
theorem md_ret {α : Type} {v : α} {cA : Nat → ClassId} {ad : Nat → Nat} {s : md_S} {p : α × md_S} (h : some (v, s) = some p) : v = p.1 ∧ md_pic cA ad s = md_pic cA ad p.2 := by
  obtain rfl := Option.some.inj h
  exact ⟨rfl, rfl⟩
theorem md_retv {v : Int32} {cA : Nat → ClassId} {ad : Nat → Nat} {s : md_S} {p : Int32 × md_S} (h : some (v, s) = some p) : md_pic cA ad s = md_pic cA ad p.2 := (md_ret h).2
theorem md_at0 {cA : Nat → ClassId} {ad : Nat → Nat} {s : md_S} : md_pic cA ad s (ad 137) = some (.inr (12, md_fs ad s)) := if_pos rfl
theorem md_find {ad : Nat → Nat} : ∀ (L : List Nat) (k : Nat), k ∈ L → (∀ i ∈ L, ad i = ad k → i = k) → L.find? (fun j => ad j == ad k) = some k
  | [], k, hm, _ => absurd hm (by simp)
  | a :: L, k, hm, hi => by
    by_cases h : ad a = ad k
    · have := hi a List.mem_cons_self h
      subst this
      simp
    · have h2 : (ad a == ad k) = false := by simpa using h
      rw [List.find?_cons, h2]
      refine md_find L k ?_ (fun i q => hi i (List.mem_cons_of_mem _ q))
      rcases List.mem_cons.mp hm with q | q
      · exact absurd (by rw [q]) h
      · exact q
theorem md_atA {cA : Nat → ClassId} {ad : Nat → Nat} {s : md_S} (hj : md_inj ad) {k : Nat} (hk : k ∈ md_ars) : md_pic cA ad s (ad k) = some (md_arr cA s k) := by
  unfold md_pic
  rw [if_neg (hj.2 k hk), md_find md_ars k hk (fun i hi q => hj.1 i hi k hk q)]
  rfl
theorem md_fsget {ad : Nat → Nat} {s : md_S} {k : Nat} (hk : k < 137) : (md_fs ad s)[k]? = some (md_val ad s k) := by
  unfold md_fs
  rw [List.getElem?_map, List.getElem?_range hk]
  rfl
theorem md_fslen {ad : Nat → Nat} {s : md_S} : (md_fs ad s).length = 137 := by simp [md_fs]
theorem md_fsset {ad : Nat → Nat} {s s' : md_S} {k : Nat} (h : ∀ j, j ≠ k → md_val ad s' j = md_val ad s j) : (md_fs ad s).set k (md_val ad s' k) = md_fs ad s' := by
  apply List.ext_getElem?
  intro j
  by_cases hj : j < 137
  · rw [md_fsget hj]
    by_cases q : k = j
    · subst q
      rw [List.getElem?_set_self (by rw [md_fslen]; exact hj)]
    · rw [List.getElem?_set_ne q, md_fsget hj, h j (fun e => q e.symm)]
  · rw [List.getElem?_eq_none (by rw [List.length_set, md_fslen]; omega), List.getElem?_eq_none (by rw [md_fslen]; omega)]
theorem md_up0 {cA : Nat → ClassId} {ad : Nat → Nat} {s s' : md_S} {fs : List Value} (h : fs = md_fs ad s') (h2 : ∀ k, md_arr cA s' k = md_arr cA s k) : hp_up (md_pic cA ad s) (ad 137) (.inr (12, fs)) = md_pic cA ad s' := by
  funext a
  by_cases q : a = ad 137
  · subst q
    rw [hp_up_self, md_at0, h]
  · rw [hp_up_ne _ _ q]
    unfold md_pic
    rw [if_neg q, if_neg q]
    congr 1
    funext k
    exact (h2 k).symm
theorem md_upA {cA : Nat → ClassId} {ad : Nat → Nat} {s s' : md_S} (hj : md_inj ad) {k : Nat} (hk : k ∈ md_ars) {e : va_E} (he : e = md_arr cA s' k) (h1 : md_fs ad s' = md_fs ad s) (h2 : ∀ j, j ≠ k → md_arr cA s' j = md_arr cA s j) : hp_up (md_pic cA ad s) (ad k) e = md_pic cA ad s' := by
  funext a
  by_cases q : a = ad k
  · subst q
    rw [hp_up_self, md_atA hj hk, he]
  · rw [hp_up_ne _ _ q]
    unfold md_pic
    rw [h1]
    split
    · rfl
    · cases hf : md_ars.find? (fun k => ad k == a) with
      | none => rfl
      | some j =>
        have hja : ad j = a := by simpa using List.find?_some hf
        have hjk : j ≠ k := fun r => q (by rw [← hja, r])
        exact congrArg some (h2 j hjk).symm
theorem md_setI {cA : Nat → ClassId} {ad : Nat → Nat} {s : md_S} {k : Nat} {v : Int32} (hk : md_kind k = 0) : hp_up (md_pic cA ad s) (ad 137) (.inr (12, (md_fs ad s).set k (.int v))) = md_pic cA ad (mSI s k v) := by
  refine md_up0 ?_ (fun _ => rfl)
  have hv : md_val ad (mSI s k v) k = .int v := by
    unfold md_val mSI
    dsimp only
    rw [if_pos hk, if_pos rfl]
  rw [← hv]
  refine md_fsset (fun j hj => ?_)
  unfold md_val mSI
  dsimp only
  rw [if_neg hj]
theorem md_setJ {cA : Nat → ClassId} {ad : Nat → Nat} {s : md_S} {k : Nat} {v : Int64} (hk : md_kind k = 1) : hp_up (md_pic cA ad s) (ad 137) (.inr (12, (md_fs ad s).set k (.long v))) = md_pic cA ad (mSJ s k v) := by
  refine md_up0 ?_ (fun _ => rfl)
  have hv : md_val ad (mSJ s k v) k = .long v := by
    unfold md_val mSJ
    dsimp only
    rw [if_neg (by rw [hk]; decide), if_pos hk, if_pos rfl]
  rw [← hv]
  refine md_fsset (fun j hj => ?_)
  unfold md_val mSJ
  dsimp only
  rw [if_neg hj]
theorem md_setA {cA : Nat → ClassId} {ad : Nat → Nat} {s : md_S} (hj : md_inj ad) {k i : Nat} {v : Int32} (hk : k ∈ md_ars) (h3 : md_kind k = 2) : hp_up (md_pic cA ad s) (ad k) (.inl (cA (md_ct k), md_len k, .inl (upd (s.2.2.1 k) i v))) = md_pic cA ad (mSA s k i v) := by
  refine md_upA hj hk ?_ rfl (fun j q => ?_)
  · unfold md_arr mSA
    dsimp only
    rw [if_neg (by rw [h3]; decide), if_pos rfl]
  · unfold md_arr mSA
    dsimp only
    rw [if_neg q]
theorem md_setL {cA : Nat → ClassId} {ad : Nat → Nat} {s : md_S} (hj : md_inj ad) {k i : Nat} {v : Int64} (hk : k ∈ md_ars) (h3 : md_kind k = 3) : hp_up (md_pic cA ad s) (ad k) (.inl (cA (md_ct k), md_len k, .inr (.inl (vp_updL (s.2.2.2 k) i v)))) = md_pic cA ad (mSL s k i v) := by
  refine md_upA hj hk ?_ rfl (fun j q => ?_)
  · unfold md_arr mSL
    dsimp only
    rw [if_pos h3, if_pos rfl]
  · unfold md_arr mSL
    dsimp only
    rw [if_neg q]
theorem md_isA {cA : Nat → ClassId} {ad : Nat → Nat} {s : md_S} (hj : md_inj ad) {k : Nat} (hk : k ∈ md_ars) (h3 : md_kind k = 2) : md_pic cA ad s (ad k) = some (.inl (cA (md_ct k), md_len k, .inl (s.2.2.1 k))) := by
  rw [md_atA hj hk]
  unfold md_arr
  rw [if_neg (by rw [h3]; decide)]
theorem md_isL {cA : Nat → ClassId} {ad : Nat → Nat} {s : md_S} (hj : md_inj ad) {k : Nat} (hk : k ∈ md_ars) (h3 : md_kind k = 3) : md_pic cA ad s (ad k) = some (.inl (cA (md_ct k), md_len k, .inr (.inl (s.2.2.2 k)))) := by
  rw [md_atA hj hk]
  unfold md_arr
  rw [if_pos h3]
theorem md_ldAs {s : md_S} {k : Nat} {i v : Int32} (h : mldA s k i = some v) : vp_in i (md_len k) ∧ s.2.2.1 k i.toNatClampNeg = v := by
  unfold mldA at h
  split at h
  · rename_i q; exact ⟨vp_in_iff.mpr q, Option.some.inj h⟩
  · cases h
theorem md_ldLs {s : md_S} {k : Nat} {i : Int32} {v : Int64} (h : mldL s k i = some v) : vp_in i (md_len k) ∧ s.2.2.2 k i.toNatClampNeg = v := by
  unfold mldL at h
  split at h
  · rename_i q; exact ⟨vp_in_iff.mpr q, Option.some.inj h⟩
  · cases h
theorem md_stAs {s s1 : md_S} {k : Nat} {i v : Int32} (h : mstA s k i v = some s1) : vp_in i (md_len k) ∧ mSA s k i.toNatClampNeg v = s1 := by
  unfold mstA at h
  split at h
  · rename_i q; exact ⟨vp_in_iff.mpr q, Option.some.inj h⟩
  · cases h
theorem md_stBs {s s1 : md_S} {k : Nat} {i v : Int32} (h : mstB s k i v = some s1) : vp_in i (md_len k) ∧ mSA s k i.toNatClampNeg (vp_nar .byte v) = s1 := by
  unfold mstB at h
  split at h
  · rename_i q; exact ⟨vp_in_iff.mpr q, Option.some.inj h⟩
  · cases h
theorem md_stZs {s s1 : md_S} {k : Nat} {i v : Int32} (h : mstZ s k i v = some s1) : vp_in i (md_len k) ∧ mSA s k i.toNatClampNeg (vp_nar .boolean v) = s1 := by
  unfold mstZ at h
  split at h
  · rename_i q; exact ⟨vp_in_iff.mpr q, Option.some.inj h⟩
  · cases h
theorem md_stLs {s s1 : md_S} {k : Nat} {i : Int32} {v : Int64} (h : mstL s k i v = some s1) : vp_in i (md_len k) ∧ mSL s k i.toNatClampNeg v = s1 := by
  unfold mstL at h
  split at h
  · rename_i q; exact ⟨vp_in_iff.mpr q, Option.some.inj h⟩
  · cases h
theorem md_fitb {v : Int32} (q : v = 0 ∨ v = 1) : fits .boolean (.int v) = true := by rcases q with q | q <;> rw [q] <;> decide
section MD
variable {p : Program} {l : Launch} {e : Env} {R : Room} {s : State} {m : MethodId} {args : Array Value} {below : List Frame} {meth : Method} {c : Code} {H : Heap} {locs : List Loc} {cells slots : Nat} {Q : State → Prop}
variable {cc : ByteArray} {ret : Option FieldType} {maxL : Nat} {y : MethodName} {Ts : List Cond} {pc : Nat} {ls : Array Slot} {rest : List Value} {D : va_G} {E : hp_N} {A : Nat → Prop} {cA : Nat → ClassId} {ad : Nat → Nat} {σ σ1 : md_S} {k index : Nat}
theorem md_gI (cx : hp_C p c cc meth ret maxL s m args y Ts) (hw : hp_w D vwCl (hp_Tl cA) E A s H locs (md_pic cA ad σ)) (hin : ∀ w ∈ u_ws RX12 TX12 137, w ∈ Ts) (hk : md_kind k = 0) (hk2 : k < 137) (hl : Cond.fieldLink y.cls index (TX12 k).1 (TX12 k).2.1 (TX12 k).2.2.1 ∈ Ts) (hdg : decode cc pc = .ok (.getfield index, 3)) (kk : W p l e R s m args below meth c H locs cells slots Q (F0 m (pc + 3) ls (.int (mI σ k) :: rest))) : W p l e R s m args below meth c H locs cells slots Q (F0 m pc ls (.ref (ad 137) :: rest)) :=
  hp_get (C := RX12) (T := TX12) (N := 137) (ci := 12) cx hw hin rfl md_at0 k hk2 hl (v := .int (mI σ k)) (by rw [md_fsget hk2]; unfold md_val; rw [if_pos hk]) hdg kk
theorem md_gJ (cx : hp_C p c cc meth ret maxL s m args y Ts) (hw : hp_w D vwCl (hp_Tl cA) E A s H locs (md_pic cA ad σ)) (hin : ∀ w ∈ u_ws RX12 TX12 137, w ∈ Ts) (hk : md_kind k = 1) (hk2 : k < 137) (hl : Cond.fieldLink y.cls index (TX12 k).1 (TX12 k).2.1 (TX12 k).2.2.1 ∈ Ts) (hdg : decode cc pc = .ok (.getfield index, 3)) (kk : W p l e R s m args below meth c H locs cells slots Q (F0 m (pc + 3) ls (.long (mJ σ k) :: rest))) : W p l e R s m args below meth c H locs cells slots Q (F0 m pc ls (.ref (ad 137) :: rest)) :=
  hp_get (C := RX12) (T := TX12) (N := 137) (ci := 12) cx hw hin rfl md_at0 k hk2 hl (v := .long (mJ σ k)) (by rw [md_fsget hk2]; unfold md_val; rw [if_neg (by rw [hk]; decide), if_pos hk]) hdg kk
theorem md_gR (cx : hp_C p c cc meth ret maxL s m args y Ts) (hw : hp_w D vwCl (hp_Tl cA) E A s H locs (md_pic cA ad σ)) (hin : ∀ w ∈ u_ws RX12 TX12 137, w ∈ Ts) (hk : 2 ≤ md_kind k) (hk2 : k < 137) (hl : Cond.fieldLink y.cls index (TX12 k).1 (TX12 k).2.1 (TX12 k).2.2.1 ∈ Ts) (hdg : decode cc pc = .ok (.getfield index, 3)) (kk : W p l e R s m args below meth c H locs cells slots Q (F0 m (pc + 3) ls (.ref (ad k) :: rest))) : W p l e R s m args below meth c H locs cells slots Q (F0 m pc ls (.ref (ad 137) :: rest)) :=
  hp_get (C := RX12) (T := TX12) (N := 137) (ci := 12) cx hw hin rfl md_at0 k hk2 hl (v := .ref (ad k)) (by rw [md_fsget hk2]; unfold md_val; rw [if_neg (by omega), if_neg (by omega)]) hdg kk
theorem md_pI (cx : hp_C p c cc meth ret maxL s m args y Ts) (hw : hp_w D vwCl (hp_Tl cA) E A s H locs (md_pic cA ad σ)) (hin : ∀ w ∈ u_ws RX12 TX12 137, w ∈ Ts) (hk : md_kind k = 0) (hk2 : k < 137) (hfin : (TX12 k).2.2.2 = false) (hl : Cond.fieldLink y.cls index (TX12 k).1 (TX12 k).2.1 (TX12 k).2.2.1 ∈ Ts) (ht : tyX12 k = .int) {v : Int32} (he : some (mSI σ k v) = some σ1) (hdg : decode cc pc = .ok (.putfield index, 3)) (kk : ∀ (H1 : Heap) (locs1 : List Loc), hp_w D vwCl (hp_Tl cA) E A s H1 locs1 (md_pic cA ad σ1) → W p l e R s m args below meth c H1 locs1 cells slots Q (F0 m (pc + 3) ls (rest))) : W p l e R s m args below meth c H locs cells slots Q (F0 m pc ls (.int v :: .ref (ad 137) :: rest)) := by
  obtain rfl := Option.some.inj he
  refine hp_put (C := RX12) (T := TX12) (N := 137) (ci := 12) cx hw hin tyX12_ok nmX12 rfl md_at0 k hk2 hl hfin (v := .int v) (by rw [ht]; rfl) (by rw [ht]; rfl) (by rw [md_fslen]; exact hk2) rfl hdg (fun g1 H1 locs1 eg hw1 => ?_)
  rw [md_setI hk] at eg
  subst eg
  exact kk H1 locs1 hw1
theorem md_pZ (cx : hp_C p c cc meth ret maxL s m args y Ts) (hw : hp_w D vwCl (hp_Tl cA) E A s H locs (md_pic cA ad σ)) (hin : ∀ w ∈ u_ws RX12 TX12 137, w ∈ Ts) (hk : md_kind k = 0) (hk2 : k < 137) (hfin : (TX12 k).2.2.2 = false) (hl : Cond.fieldLink y.cls index (TX12 k).1 (TX12 k).2.1 (TX12 k).2.2.1 ∈ Ts) (ht : tyX12 k = .boolean) {v : Int32} (hnz : v = 0 ∨ v = 1) (he : some (mSI σ k v) = some σ1) (hdg : decode cc pc = .ok (.putfield index, 3)) (kk : ∀ (H1 : Heap) (locs1 : List Loc), hp_w D vwCl (hp_Tl cA) E A s H1 locs1 (md_pic cA ad σ1) → W p l e R s m args below meth c H1 locs1 cells slots Q (F0 m (pc + 3) ls (rest))) : W p l e R s m args below meth c H locs cells slots Q (F0 m pc ls (.int v :: .ref (ad 137) :: rest)) := by
  obtain rfl := Option.some.inj he
  refine hp_put (C := RX12) (T := TX12) (N := 137) (ci := 12) cx hw hin tyX12_ok nmX12 rfl md_at0 k hk2 hl hfin (v := .int v) (by rw [ht]; exact md_nbn hnz) (by rw [ht]; first | rfl | exact md_fitb hnz) (by rw [md_fslen]; exact hk2) rfl hdg (fun g1 H1 locs1 eg hw1 => ?_)
  rw [md_setI hk] at eg
  subst eg
  exact kk H1 locs1 hw1
theorem md_pJ (cx : hp_C p c cc meth ret maxL s m args y Ts) (hw : hp_w D vwCl (hp_Tl cA) E A s H locs (md_pic cA ad σ)) (hin : ∀ w ∈ u_ws RX12 TX12 137, w ∈ Ts) (hk : md_kind k = 1) (hk2 : k < 137) (hfin : (TX12 k).2.2.2 = false) (hl : Cond.fieldLink y.cls index (TX12 k).1 (TX12 k).2.1 (TX12 k).2.2.1 ∈ Ts) (ht : tyX12 k = .long) {v : Int64} (he : some (mSJ σ k v) = some σ1) (hdg : decode cc pc = .ok (.putfield index, 3)) (kk : ∀ (H1 : Heap) (locs1 : List Loc), hp_w D vwCl (hp_Tl cA) E A s H1 locs1 (md_pic cA ad σ1) → W p l e R s m args below meth c H1 locs1 cells slots Q (F0 m (pc + 3) ls (rest))) : W p l e R s m args below meth c H locs cells slots Q (F0 m pc ls (.long v :: .ref (ad 137) :: rest)) := by
  obtain rfl := Option.some.inj he
  refine hp_put (C := RX12) (T := TX12) (N := 137) (ci := 12) cx hw hin tyX12_ok nmX12 rfl md_at0 k hk2 hl hfin (v := .long v) (by rw [ht]; rfl) (by rw [ht]; rfl) (by rw [md_fslen]; exact hk2) rfl hdg (fun g1 H1 locs1 eg hw1 => ?_)
  rw [md_setJ hk] at eg
  subst eg
  exact kk H1 locs1 hw1
theorem md_lI (hj : md_inj ad) (cx : hp_C p c cc meth ret maxL s m args y Ts) (hw : hp_w D vwCl (hp_Tl cA) E A s H locs (md_pic cA ad σ)) (hk : k ∈ md_ars) (h3 : md_kind k = 2) (hc : md_ct k = 1) (hx : True = True) {i : Int32} {v : Int32} (he : mldA σ k i = some v) (hdg : decode cc pc = .ok (.iaload, 1)) (kk : W p l e R s m args below meth c H locs cells slots Q (F0 m (pc + 1) ls (.int v :: rest))) : W p l e R s m args below meth c H locs cells slots Q (F0 m pc ls (.int i :: .ref (ad k) :: rest)) := by
  obtain ⟨hb, rfl⟩ := md_ldAs he
  refine hp_iald cx hw 1 (md_isA hj hk h3) (by rw [hc]; rfl) hb hdg ?_
  exact kk
theorem md_lB (hj : md_inj ad) (cx : hp_C p c cc meth ret maxL s m args y Ts) (hw : hp_w D vwCl (hp_Tl cA) E A s H locs (md_pic cA ad σ)) (hk : k ∈ md_ars) (h3 : md_kind k = 2) (hc : md_ct k = 0) (hx : True = True) {i : Int32} {v : Int32} (he : mldA σ k i = some v) (hdg : decode cc pc = .ok (.baload, 1)) (kk : W p l e R s m args below meth c H locs cells slots Q (F0 m (pc + 1) ls (.int v :: rest))) : W p l e R s m args below meth c H locs cells slots Q (F0 m pc ls (.int i :: .ref (ad k) :: rest)) := by
  obtain ⟨hb, rfl⟩ := md_ldAs he
  refine hp_bald cx hw 0 (md_isA hj hk h3) (by rw [hc]; rfl) hb hdg ?_
  exact kk
theorem md_lZ (hj : md_inj ad) (cx : hp_C p c cc meth ret maxL s m args y Ts) (hw : hp_w D vwCl (hp_Tl cA) E A s H locs (md_pic cA ad σ)) (hk : k ∈ md_ars) (h3 : md_kind k = 2) (hc : md_ct k = 3) (hx : True = True) {i : Int32} {v : Int32} (he : mldA σ k i = some v) (hdg : decode cc pc = .ok (.baload, 1)) (kk : W p l e R s m args below meth c H locs cells slots Q (F0 m (pc + 1) ls (.int v :: rest))) : W p l e R s m args below meth c H locs cells slots Q (F0 m pc ls (.int i :: .ref (ad k) :: rest)) := by
  obtain ⟨hb, rfl⟩ := md_ldAs he
  refine hp_zald cx hw 3 (md_isA hj hk h3) (by rw [hc]; rfl) hb hdg ?_
  exact kk
theorem md_lJ (hj : md_inj ad) (cx : hp_C p c cc meth ret maxL s m args y Ts) (hw : hp_w D vwCl (hp_Tl cA) E A s H locs (md_pic cA ad σ)) (hk : k ∈ md_ars) (h3 : md_kind k = 3) (hc : md_ct k = 2) (hx : True = True) {i : Int32} {v : Int64} (he : mldL σ k i = some v) (hdg : decode cc pc = .ok (.laload, 1)) (kk : W p l e R s m args below meth c H locs cells slots Q (F0 m (pc + 1) ls (.long v :: rest))) : W p l e R s m args below meth c H locs cells slots Q (F0 m pc ls (.int i :: .ref (ad k) :: rest)) := by
  obtain ⟨hb, rfl⟩ := md_ldLs he
  refine hp_lald cx hw 2 (md_isL hj hk h3) (by rw [hc]; rfl) hb hdg ?_
  exact kk
theorem md_sI (hj : md_inj ad) (cx : hp_C p c cc meth ret maxL s m args y Ts) (hw : hp_w D vwCl (hp_Tl cA) E A s H locs (md_pic cA ad σ)) (hk : k ∈ md_ars) (h3 : md_kind k = 2) (hc : md_ct k = 1) (hx : True = True) {i : Int32} {v : Int32} (he : mstA σ k i v = some σ1) (hdg : decode cc pc = .ok (.iastore, 1)) (kk : ∀ (H1 : Heap) (locs1 : List Loc), hp_w D vwCl (hp_Tl cA) E A s H1 locs1 (md_pic cA ad σ1) → W p l e R s m args below meth c H1 locs1 cells slots Q (F0 m (pc + 1) ls (rest))) : W p l e R s m args below meth c H locs cells slots Q (F0 m pc ls (.int v :: .int i :: .ref (ad k) :: rest)) := by
  obtain ⟨hb, rfl⟩ := md_stAs he
  refine hp_iast cx hw 1 (md_isA hj hk h3) (by rw [hc]; rfl) hb hdg (fun g1 H1 locs1 eg hw1 => ?_)
  rw [md_setA hj hk h3] at eg
  subst eg
  exact kk H1 locs1 hw1
theorem md_sB (hj : md_inj ad) (cx : hp_C p c cc meth ret maxL s m args y Ts) (hw : hp_w D vwCl (hp_Tl cA) E A s H locs (md_pic cA ad σ)) (hk : k ∈ md_ars) (h3 : md_kind k = 2) (hc : md_ct k = 0) (hx : True = True) {i : Int32} {v : Int32} (he : mstB σ k i v = some σ1) (hdg : decode cc pc = .ok (.bastore, 1)) (kk : ∀ (H1 : Heap) (locs1 : List Loc), hp_w D vwCl (hp_Tl cA) E A s H1 locs1 (md_pic cA ad σ1) → W p l e R s m args below meth c H1 locs1 cells slots Q (F0 m (pc + 1) ls (rest))) : W p l e R s m args below meth c H locs cells slots Q (F0 m pc ls (.int v :: .int i :: .ref (ad k) :: rest)) := by
  obtain ⟨hb, rfl⟩ := md_stBs he
  refine hp_bast cx hw 0 (md_isA hj hk h3) (by rw [hc]; rfl) hb hdg (fun g1 H1 locs1 eg hw1 => ?_)
  rw [md_setA hj hk h3] at eg
  subst eg
  exact kk H1 locs1 hw1
theorem md_sZ (hj : md_inj ad) (cx : hp_C p c cc meth ret maxL s m args y Ts) (hw : hp_w D vwCl (hp_Tl cA) E A s H locs (md_pic cA ad σ)) (hk : k ∈ md_ars) (h3 : md_kind k = 2) (hc : md_ct k = 3) (hx : True = True) {i : Int32} {v : Int32} (he : mstZ σ k i v = some σ1) (hdg : decode cc pc = .ok (.bastore, 1)) (kk : ∀ (H1 : Heap) (locs1 : List Loc), hp_w D vwCl (hp_Tl cA) E A s H1 locs1 (md_pic cA ad σ1) → W p l e R s m args below meth c H1 locs1 cells slots Q (F0 m (pc + 1) ls (rest))) : W p l e R s m args below meth c H locs cells slots Q (F0 m pc ls (.int v :: .int i :: .ref (ad k) :: rest)) := by
  obtain ⟨hb, rfl⟩ := md_stZs he
  refine hp_zast cx hw 3 (md_isA hj hk h3) (by rw [hc]; rfl) hb hdg (fun g1 H1 locs1 eg hw1 => ?_)
  rw [md_setA hj hk h3] at eg
  subst eg
  exact kk H1 locs1 hw1
theorem md_sJ (hj : md_inj ad) (cx : hp_C p c cc meth ret maxL s m args y Ts) (hw : hp_w D vwCl (hp_Tl cA) E A s H locs (md_pic cA ad σ)) (hk : k ∈ md_ars) (h3 : md_kind k = 3) (hc : md_ct k = 2) (hx : True = True) {i : Int32} {v : Int64} (he : mstL σ k i v = some σ1) (hdg : decode cc pc = .ok (.lastore, 1)) (kk : ∀ (H1 : Heap) (locs1 : List Loc), hp_w D vwCl (hp_Tl cA) E A s H1 locs1 (md_pic cA ad σ1) → W p l e R s m args below meth c H1 locs1 cells slots Q (F0 m (pc + 1) ls (rest))) : W p l e R s m args below meth c H locs cells slots Q (F0 m pc ls (.long v :: .int i :: .ref (ad k) :: rest)) := by
  obtain ⟨hb, rfl⟩ := md_stLs he
  refine hp_last cx hw 2 (md_isL hj hk h3) (by rw [hc]; rfl) hb hdg (fun g1 H1 locs1 eg hw1 => ?_)
  rw [md_setL hj hk h3] at eg
  subst eg
  exact kk H1 locs1 hw1
end MD
