/-! a callee that is handed a part of the picture: the rest stays as it was -/
theorem pl_at {L : List Nat} {f : Nat → va_E} {k : Nat} {q : Nat × va_E} (h : (va_pl L f)[k]? = some q) : ∃ a, L[k]? = some a ∧ q = (a, f a) := by
  have h1 : (L.map (fun a => (a, f a)))[k]? = some q := h
  rw [List.getElem?_map] at h1
  cases hl : L[k]? with
  | none => rw [hl] at h1; simp at h1
  | some b => rw [hl] at h1; exact ⟨b, rfl, (Option.some.inj h1).symm⟩
theorem pl_to {L : List Nat} {f : Nat → va_E} {k a : Nat} (h : L[k]? = some a) : (va_pl L f)[k]? = some (a, f a) := by
  show (L.map (fun a => (a, f a)))[k]? = _
  rw [List.getElem?_map, h]
  rfl
theorem hp_is.to {D : va_G} {cl : List vw_C} {A : Nat → Prop} {g : hp_M} {H : Heap} (h : hp_is D cl A g H) : (∃ L : List Nat, L.Nodup ∧ ∀ a, g a ≠ none ↔ a ∈ L) ∧ ∀ a e, g a = some e → va_at D cl (a, e) H ∧ A a := by
  obtain ⟨L, f, h1, h2, h3⟩ := h
  refine ⟨⟨L, ?_, fun a => ?_⟩, fun a e ha => ?_⟩
  · refine List.pairwise_iff_getElem.mpr fun i j hi hj hij he => ?_
    have a1 : (va_pl L f)[i]? = some (L[i], f L[i]) := pl_to (List.getElem?_eq_getElem hi)
    have a2 : (va_pl L f)[j]? = some (L[j], f L[j]) := pl_to (List.getElem?_eq_getElem hj)
    have := h3.1 i j _ _ a1 a2 he
    omega
  · constructor
    · intro hn
      cases hg : g a with
      | none => exact absurd hg hn
      | some e => exact (hp_in h1 hg).1
    · intro hm hn
      rw [h1 a, if_pos hm] at hn
      cases hn
  · obtain ⟨k, hk⟩ := hp_at h1 ha
    exact ⟨h2 k _ hk, h3.2 k _ hk⟩
theorem hp_is.of {D : va_G} {cl : List vw_C} {A : Nat → Prop} {g : hp_M} {H : Heap} {L : List Nat} (hn : L.Nodup) (hm : ∀ a, g a ≠ none ↔ a ∈ L) (h : ∀ a e, g a = some e → va_at D cl (a, e) H ∧ A a) : hp_is D cl A g H := by
  have hf : ∀ a, a ∈ L → g a = some ((g a).getD (.inr (0, []))) := fun a ha => by
    cases hg : g a with
    | none => exact absurd hg ((hm a).mpr ha)
    | some e => rfl
  refine ⟨L, fun a => (g a).getD (.inr (0, [])), fun a => ?_, fun k q hk => ?_, fun i j p q hi hj he => ?_, fun k q hk => ?_⟩
  · by_cases ha : a ∈ L
    · rw [if_pos ha]; exact hf a ha
    · rw [if_neg ha]
      cases hg : g a with
      | none => rfl
      | some e => exact absurd ((hm a).mp (by rw [hg]; exact fun q => by cases q)) ha
  · obtain ⟨a, ha, rfl⟩ := pl_at hk
    exact (h a _ (hf a (List.mem_of_getElem? ha))).1
  · obtain ⟨a, ha, rfl⟩ := pl_at hi
    obtain ⟨b, hb, rfl⟩ := pl_at hj
    have he : a = b := he
    subst he
    obtain ⟨i1, e1⟩ := List.getElem?_eq_some_iff.mp ha
    obtain ⟨j1, e2⟩ := List.getElem?_eq_some_iff.mp hb
    have hp := List.pairwise_iff_getElem.mp hn
    rcases Nat.lt_trichotomy i j with q | q | q
    · exact absurd (e1.trans e2.symm) (hp i j i1 j1 q)
    · exact q
    · exact absurd (e2.trans e1.symm) (hp j i j1 i1 q)
  · obtain ⟨a, ha, rfl⟩ := pl_at hk
    exact (h a _ (hf a (List.mem_of_getElem? ha))).2
/-- the picture behind such a call -/
def hp_ov (g1 u g : hp_M) : hp_M := fun a => match u a with
  | some e => some e
  | none => if (g1 a).isNone then g a else none
theorem hp_ov_u {g1 u g : hp_M} {a : Nat} {e : va_E} (h : u a = some e) : hp_ov g1 u g a = some e := by unfold hp_ov; rw [h]
theorem hp_overlay {D : va_G} {cl : List vw_C} {tys : List (ClassId × FieldType)} {E : hp_N} {A : Nat → Prop} {s : State} {H H1 : Heap} {locs locs1 : List Loc} {g g1 u : hp_M} (hw : hp_w D cl tys E A s H locs g) (hsub : ∀ a e, g1 a = some e → g a = some e) (hu : hp_is D cl (hp_A g1 H.size) u H1) (hk : ∀ q : Nat, q < H.size → ¬ hp_A g1 H.size q → H1[q]? = H[q]?) (hS : va_S A s.heap H1 locs1) :
    hp_w D cl tys E A s H1 locs1 (hp_ov g1 u g) ∧ ∀ a e, g a = some e → g1 a = none → hp_ov g1 u g a = some e := by
  obtain ⟨⟨Lg, ng, mg⟩, ag⟩ := hp_is.to hw.1
  obtain ⟨⟨Lu, nu, mu⟩, au⟩ := hp_is.to hu
  have hA : ∀ q, hp_A g1 H.size q → A q := fun q h => h.elim (fun h => by
    cases hg : g1 q with
    | none => exact absurd hg h
    | some e => exact (ag q e (hsub q e hg)).2) (fun h => hw.2.2.2.1 q (Nat.le_trans hw.2.1.1 h))
  have hun : ∀ a e, g a = some e → g1 a = none → u a = none := fun a e ha h1 => by
    cases hq : u a with
    | none => rfl
    | some x =>
      rcases (au a x hq).2 with q | q
      · exact absurd h1 q
      · exact absurd (hp_lt hw.1 (by rw [ha]; exact fun z => by cases z)) (Nat.not_lt.mpr q)
  have hkeep : ∀ a e, g a = some e → g1 a = none → hp_ov g1 u g a = some e := fun a e ha h1 => by
    unfold hp_ov
    rw [hun a e ha h1, h1]
    exact ha
  refine ⟨⟨hp_is.of (L := Lu ++ Lg.filter (fun a => (g1 a).isNone)) ?_ (fun a => ?_) (fun a e ha => ?_), hS, hw.2.2.1, hw.2.2.2⟩, hkeep⟩
  · refine List.nodup_append.mpr ⟨nu, ng.filter _, fun a ha b hb he => ?_⟩
    subst he
    obtain ⟨b1, b2⟩ := List.mem_filter.mp hb
    have h1 : g1 a = none := Option.isNone_iff_eq_none.mp b2
    cases hg : g a with
    | none => exact absurd hg ((mg a).mpr b1)
    | some e => exact (mu a).mpr ha (hun a e hg h1)
  · constructor
    · intro hn
      unfold hp_ov at hn
      cases hq : u a with
      | some e => exact List.mem_append_left _ ((mu a).mp (by rw [hq]; exact fun z => by cases z))
      | none =>
        rw [hq] at hn
        by_cases h1 : (g1 a).isNone = true
        · simp only [h1, if_true] at hn
          exact List.mem_append_right _ (List.mem_filter.mpr ⟨(mg a).mp hn, h1⟩)
        · simp [h1] at hn
    · intro hm hn
      rcases List.mem_append.mp hm with q | q
      · cases hq : u a with
        | none => exact (mu a).mpr q hq
        | some e => rw [hp_ov_u hq] at hn; cases hn
      · obtain ⟨b1, b2⟩ := List.mem_filter.mp q
        cases hg : g a with
        | none => exact (mg a).mpr b1 hg
        | some e => rw [hkeep a e hg (Option.isNone_iff_eq_none.mp b2)] at hn; cases hn
  · unfold hp_ov at ha
    cases hq : u a with
    | some x =>
      rw [hq] at ha
      obtain rfl := Option.some.inj ha
      exact ⟨(au a x hq).1, hA a (au a x hq).2⟩
    | none =>
      rw [hq] at ha
      by_cases h1 : (g1 a).isNone = true
      · simp only [h1, if_true] at ha
        obtain ⟨q1, q2⟩ := ag a e ha
        have hlt : a < H.size := hp_lt hw.1 (by rw [ha]; exact fun z => by cases z)
        refine ⟨q1.kept (hk a hlt ?_), q2⟩
        rintro (z | z)
        · exact z (Option.isNone_iff_eq_none.mp h1)
        · omega
      · simp [h1] at ha
section HF
variable {p : Program} {l : Launch} {e : Env} {R : Room} {s : State} {m : MethodId} {args : Array Value} {below : List Frame} {meth : Method} {c : Code} {H : Heap} {locs : List Loc} {cells slots : Nat} {Q : State → Prop}
variable {cc : ByteArray} {ret : Option FieldType} {maxL : Nat} {y : MethodName} {Ts : List Cond} {pc : Nat} {ls : Array Slot} {rest st0 : List Value} {D : va_G} {cl : List vw_C} {E : hp_N} {A : Nat → Prop} {tys : List (ClassId × FieldType)} {g g1 : hp_M}
variable {y1 : MethodName} {bytes : ByteArray} {maxL1 mc ms n index b : Nat} {ret1 : Option FieldType} {ws : List Cond} {rm : Room} {As : List Value} {C : String}
theorem hp_subF (hw : hp_w D cl tys E A s H locs g) (hsub : ∀ a e, g1 a = some e → g a = some e) : ∀ q, hp_A g1 H.size q → A q := fun q h => h.elim (fun h => by
    cases hg : g1 q with
    | none => exact absurd hg h
    | some e => exact hp_inA hw.1 (by rw [hsub q e hg]; exact fun z => by cases z)) (fun h => hw.2.2.2.1 q (Nat.le_trans hw.2.1.1 h))
theorem hp_isF (hw : hp_w D cl tys E A s H locs g) (hsub : ∀ a e, g1 a = some e → g a = some e) : hp_is D cl (fun _ => True) g1 H := by
  obtain ⟨⟨Lg, ng, mg⟩, ag⟩ := hp_is.to hw.1
  refine hp_is.of (L := Lg.filter (fun a => (g1 a).isSome)) (ng.filter _) (fun a => ?_) (fun a e ha => ⟨(ag a e (hsub a e ha)).1, trivial⟩)
  rw [List.mem_filter]
  cases hg : g1 a with
  | none => simp
  | some e => simp; exact (mg a).mp (by rw [hsub a e hg]; exact fun z => by cases z)
theorem hp_preF (hw : hp_w D cl tys E A s H locs g) (hsub : ∀ a e, g1 a = some e → g a = some e) (av : List Value) : ∀ U : State, U.heap = H → s.WarmedH U.vm → hp_Pc D cl tys E H.size g1 av av.toArray U := fun U hU hW => ⟨rfl, by rw [hU], ⟨by rw [hU]; exact hp_isF hw hsub, va_K.moved hW.alike hw.2.2.1⟩, hw.2.2.2.2.1, by
  rw [hU]
  obtain ⟨e1, e2, e3, e4⟩ := hw.2.2.2.2.1
  exact e2 _ s U H hW (e1 _ _ _ _ (hp_subF hw hsub) (e4 _ _ _ _ hw.2.1.2.1 hw.2.2.2.2.2))⟩
theorem hp_callFi (cx : hp_C p c cc meth ret maxL s m args y Ts) (hw : hp_w D cl tys E A s H locs g) (hsub : ∀ a e, g1 a = some e → g a = some e) {post : Int32 → hp_M → Prop} (hM : Met l y1 ws rm (hp_Pc D cl tys E H.size g1 (.ref b :: As)) (hp_Qi D cl tys H.size g1 post) mc ms (hp_A g1 H.size)) (cw : CallW R s args y.cls C index y1 bytes maxL1 ret1 ws rm mc ms n) {ci : Nat} {fs : List Value} {T : u_T} {N : Nat} (hg : g b = some (.inr (ci, fs))) (hc : cl[ci]? = some (C, T, N)) (hn : As.length = n) (hsz : ls.size = maxL) (hst : st0 = As.reverse ++ .ref b :: rest) (hW : (rest.map fun v => v.category).sum ≤ 8) (hdg : decode cc pc = .ok (.invokevirtual index, 3)) (hf : cells + mc ≤ R.cells ∧ slots + ms ≤ R.slots)
    (kk : ∀ (r : Int32) (u g2 : hp_M) (H1 : Heap) (locs1 : List Loc), post r u → (∀ a e, u a = some e → g2 a = some e) → (∀ a e, g a = some e → g1 a = none → g2 a = some e) → hp_w D cl tys E A s H1 locs1 g2 → W p l e R s m args below meth c H1 locs1 (cells + mc) (slots + ms) Q (F0 m (pc + 3) ls (.int r :: rest))) : W p l e R s m args below meth c H locs cells slots Q (F0 m pc ls st0) := by
  obtain ⟨hx, hb, hr, hml, hown, hts, hlk, hnm⟩ := cx
  exact va_calli (va_runV (As := As) (rest := rest) ⟨hx, hb, hml, hown, hts⟩ hM cw ⟨hp_blind, hp_recv hw hg hc, hp_preF hw hsub _⟩ rfl hn hsz hst (by simpa [F0] using hW) hdg hf) hw.2.1 (fun q _ h => hp_subF hw hsub q h) (hp_subF hw hsub) (fun r u t H1 locs1 ht hvm hp hB hz hk hS => by
    have hu : hp_is D cl (hp_A g1 H.size) u H1 := by rw [← ht]; exact hB.1
    obtain ⟨a1, a2⟩ := hp_overlay hw hsub hu hk hS
    exact kk r u _ H1 locs1 hp (fun a e h => hp_ov_u h) a2 a1)
end HF
