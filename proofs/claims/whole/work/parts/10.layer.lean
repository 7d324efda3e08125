/-! MY LAYER: a heap picture is a partial function from addresses to cells; each row of the kit's worlds, said over it -/
abbrev hp_M : Type := Nat → Option va_E
def hp_up (g : hp_M) (a : Nat) (e : va_E) : hp_M := fun b => if b = a then some e else g b
theorem hp_up_self (g : hp_M) (a : Nat) (e : va_E) : hp_up g a e a = some e := if_pos rfl
theorem hp_up_ne (g : hp_M) {a b : Nat} (e : va_E) (h : b ≠ a) : hp_up g a e b = g b := if_neg h
def hp_0 : hp_M := fun _ => none
/-- the heap H holds the picture g, all within A -/
def hp_is (D : va_G) (cl : List vw_C) (A : Nat → Prop) (g : hp_M) (H : Heap) : Prop :=
  ∃ (L : List Nat) (f : Nat → va_E), (∀ a, g a = if a ∈ L then some (f a) else none) ∧ va_P D cl (va_pl L f) H ∧ va_D A (va_pl L f)
/-- what else a method may lean on (constant Strings, statics, array classes): of the state and of what lies outside A -/
abbrev hp_N : Type := (Nat → Prop) → State → Heap → Prop
def hp_good (E : hp_N) : Prop :=
  (∀ (A B : Nat → Prop) (U : State) (H : Heap), (∀ q, B q → A q) → E A U H → E B U H) ∧
  (∀ (A : Nat → Prop) (u U : State) (H : Heap), u.WarmedH U.vm → E A u H → E A U H) ∧
  (∀ (A : Nat → Prop) (u U : State) (H : Heap), U.vm = u.vm → E A u H → E A U H) ∧
  (∀ (A : Nat → Prop) (U : State) (H H1 : Heap), (∀ a : Nat, a < H.size → ¬ A a → H1[a]? = H[a]?) → E A U H → E A U H1)
/-- what a walk carries: the picture, what was changed since the start, the tables, what it leans on -/
def hp_w (D : va_G) (cl : List vw_C) (tys : List (ClassId × FieldType)) (E : hp_N) (A : Nat → Prop) (s : State) (H : Heap) (locs : List Loc) (g : hp_M) : Prop :=
  hp_is D cl A g H ∧ va_S A s.heap H locs ∧ va_K D cl tys s ∧ (∀ q, s.heap.size ≤ q → A q) ∧ hp_good E ∧ E A s s.heap
/-- the addresses that a method may write: those of its picture, and new ones -/
def hp_A (g : hp_M) (sz : Nat) : Nat → Prop := fun q => g q ≠ none ∨ sz ≤ q
/-- a contract's start and its ends -/
def hp_B (D : va_G) (cl : List vw_C) (tys : List (ClassId × FieldType)) (A : Nat → Prop) (g : hp_M) (t : State) : Prop := hp_is D cl A g t.heap ∧ va_K D cl tys t
def hp_Pc (D : va_G) (cl : List vw_C) (tys : List (ClassId × FieldType)) (E : hp_N) (sz : Nat) (g : hp_M) (av : List Value) : Array Value → State → Prop :=
  va_Pc av (fun U => U.heap.size = sz ∧ hp_B D cl tys (fun _ => True) g U ∧ hp_good E ∧ E (hp_A g sz) U U.heap)
abbrev hp_Qi (D : va_G) (cl : List vw_C) (tys : List (ClassId × FieldType)) (sz : Nat) (g : hp_M) (post : Int32 → hp_M → Prop) : Array Value → State → Outcome → State → Prop :=
  va_Qi post (fun u t => hp_B D cl tys (hp_A g sz) u t) (hp_A g sz)
abbrev hp_Ql (D : va_G) (cl : List vw_C) (tys : List (ClassId × FieldType)) (sz : Nat) (g : hp_M) (post : Int64 → hp_M → Prop) : Array Value → State → Outcome → State → Prop :=
  va_Ql post (fun u t => hp_B D cl tys (hp_A g sz) u t) (hp_A g sz)
abbrev hp_Qv (D : va_G) (cl : List vw_C) (tys : List (ClassId × FieldType)) (sz : Nat) (g : hp_M) (post : hp_M → Prop) : Array Value → State → Outcome → State → Prop :=
  va_Qv post (fun u t => hp_B D cl tys (hp_A g sz) u t) (hp_A g sz)
abbrev hp_Qr (D : va_G) (cl : List vw_C) (tys : List (ClassId × FieldType)) (sz : Nat) (g : hp_M) (post : Nat → hp_M → Prop) : Array Value → State → Outcome → State → Prop :=
  va_Qr (fun _ : hp_M => True) (fun u a t => post a u ∧ hp_B D cl tys (hp_A g sz) u t) (hp_A g sz)
theorem hp_in {L : List Nat} {f : Nat → va_E} {g : hp_M} (h : ∀ a, g a = if a ∈ L then some (f a) else none) {a : Nat} {e : va_E} (ha : g a = some e) : a ∈ L ∧ f a = e := by
  have h1 := h a
  by_cases hm : a ∈ L
  · rw [ha, if_pos hm] at h1
    exact ⟨hm, (Option.some.inj h1).symm⟩
  · rw [ha, if_neg hm] at h1
    cases h1
theorem hp_out {L : List Nat} {f : Nat → va_E} {g : hp_M} (h : ∀ a, g a = if a ∈ L then some (f a) else none) {a : Nat} (ha : a ∉ L) : g a = none := by
  rw [h a, if_neg ha]
theorem hp_at {L : List Nat} {f : Nat → va_E} {g : hp_M} (h : ∀ a, g a = if a ∈ L then some (f a) else none) {a : Nat} {e : va_E} (ha : g a = some e) : ∃ k : Nat, (va_pl L f)[k]? = some (a, e) := by
  obtain ⟨hm, he⟩ := hp_in h ha
  obtain ⟨k, hk⟩ := va_pl_get (X := []) (f := f) hm
  exact ⟨k, by rw [← he]; simpa using hk⟩
theorem hp_of_at {L : List Nat} {f : Nat → va_E} {g : hp_M} (h : ∀ a, g a = if a ∈ L then some (f a) else none) {a k : Nat} {e : va_E} (hk : (va_pl L f)[k]? = some (a, e)) : g a = some e := by
  have h1 : (L.map (fun a => (a, f a)))[k]? = some (a, e) := hk
  rw [List.getElem?_map] at h1
  cases hl : L[k]? with
  | none => rw [hl] at h1; simp at h1
  | some b =>
    rw [hl] at h1
    simp at h1
    obtain ⟨rfl, rfl⟩ := h1
    rw [h b, if_pos (List.mem_of_getElem? hl)]
theorem hp_set {D : va_G} {cl : List vw_C} {A : Nat → Prop} {L : List Nat} {f : Nat → va_E} {g : hp_M} (h : ∀ a, g a = if a ∈ L then some (f a) else none) {a k : Nat} {e0 e : va_E} (hk : (va_pl L f)[k]? = some (a, e0)) (hD0 : va_D A (va_pl L f)) {H1 : Heap} (hP : va_P D cl ((va_pl L f).set k (a, e)) H1) (hD : va_D A ((va_pl L f).set k (a, e))) : hp_is D cl A (hp_up g a e) H1 := by
  have hg := hp_of_at h hk
  obtain ⟨hm, he⟩ := hp_in h hg
  have hs : (va_pl L f).set k (a, e) = va_pl L (va_up f a e) := by
    have := va_pl_set (X := []) (e := e) (by simpa using hD0) hm (k := k) (by rw [he]; simpa using hk)
    simpa using this
  rw [hs] at hP hD
  refine ⟨L, va_up f a e, fun b => ?_, hP, hD⟩
  unfold hp_up va_up
  by_cases hb : b = a
  · subst hb
    rw [if_pos rfl, if_pos hm, if_pos rfl]
  · rw [if_neg hb, if_neg hb, h b]
theorem hp_push {D : va_G} {cl : List vw_C} {A : Nat → Prop} {L : List Nat} {f : Nat → va_E} {g : hp_M} (h : ∀ a, g a = if a ∈ L then some (f a) else none) {a : Nat} {e : va_E} {H1 : Heap} (hP : va_P D cl (va_pl L f ++ [(a, e)]) H1) (hD : va_D A (va_pl L f ++ [(a, e)])) : g a = none ∧ hp_is D cl A (hp_up g a e) H1 := by
  have ha : a ∉ L := va_pl_fresh2 (X := []) (A := A) (f := f) (e := e) (by simpa using hD)
  rw [va_pl_push ha] at hP hD
  refine ⟨hp_out h ha, L ++ [a], va_up f a e, fun b => ?_, hP, hD⟩
  unfold hp_up va_up
  by_cases hb : b = a
  · subst hb
    rw [if_pos rfl, if_pos (List.mem_append_right _ (List.mem_singleton.mpr rfl)), if_pos rfl]
  · rw [if_neg hb, if_neg hb, h b]
    by_cases hm : b ∈ L
    · rw [if_pos hm, if_pos (List.mem_append_left _ hm)]
    · rw [if_neg hm, if_neg (fun q => (List.mem_append.mp q).elim hm (fun q => hb (List.mem_singleton.mp q)))]
theorem hp_weak {D : va_G} {cl : List vw_C} {A B : Nat → Prop} {g : hp_M} {H : Heap} (h : hp_is D cl A g H) (hAB : ∀ q, A q → B q) : hp_is D cl B g H := by
  obtain ⟨L, f, h1, h2, h3⟩ := h
  exact ⟨L, f, h1, h2, h3.weaken (fun _ _ _ q => hAB _ q)⟩
theorem hp_self {D : va_G} {cl : List vw_C} {A : Nat → Prop} {g : hp_M} {H : Heap} {sz : Nat} (h : hp_is D cl A g H) : hp_is D cl (hp_A g sz) g H := by
  obtain ⟨L, f, h1, h2, h3⟩ := h
  refine ⟨L, f, h1, h2, h3.1, fun k q hk => Or.inl ?_⟩
  rw [hp_of_at h1 (a := q.1) (e := q.2) hk]
  exact fun q => by cases q
theorem hp_all {D : va_G} {cl : List vw_C} {A : Nat → Prop} {g : hp_M} {H : Heap} (h : hp_is D cl A g H) : hp_is D cl (fun _ => True) g H := hp_weak h (fun _ _ => trivial)
theorem hp_inA {D : va_G} {cl : List vw_C} {A : Nat → Prop} {g : hp_M} {H : Heap} (h : hp_is D cl A g H) {a : Nat} (ha : g a ≠ none) : A a := by
  obtain ⟨L, f, h1, h2, h3⟩ := h
  cases hg : g a with
  | none => exact absurd hg ha
  | some e =>
    obtain ⟨k, hk⟩ := hp_at h1 hg
    exact h3.2 k _ hk
theorem hp_lt {D : va_G} {cl : List vw_C} {A : Nat → Prop} {g : hp_M} {H : Heap} (h : hp_is D cl A g H) {a : Nat} (ha : g a ≠ none) : a < H.size := by
  obtain ⟨L, f, h1, h2, h3⟩ := h
  cases hg : g a with
  | none => exact absurd hg ha
  | some e =>
    obtain ⟨k, hk⟩ := hp_at h1 hg
    exact (h2 k _ hk).lt
/-- cells of different kinds are apart -/
theorem hp_neK {g : hp_M} {a b c1 c2 : Nat} {x y : List Value} (h1 : g a = some (.inr (c1, x))) (h2 : g b = some (.inr (c2, y))) (h : c1 ≠ c2) : a ≠ b := fun q => by
  subst q
  rw [h1] at h2
  exact h (congrArg (fun z => match z with | some (Sum.inr (c, _)) => c | _ => 0) h2)
theorem hp_neOA {g : hp_M} {a b c1 : Nat} {x : List Value} {z : ClassId × vp_A} (h1 : g a = some (.inr (c1, x))) (h2 : g b = some (.inl z)) : a ≠ b := fun q => by
  subst q
  rw [h1] at h2
  cases h2
theorem hp_neAO {g : hp_M} {a b c1 : Nat} {x : List Value} {z : ClassId × vp_A} (h1 : g a = some (.inl z)) (h2 : g b = some (.inr (c1, x))) : a ≠ b := fun q => by
  subst q
  rw [h1] at h2
  cases h2
theorem hp_neN {g : hp_M} {a b : Nat} {e : va_E} (h1 : g a = some e) (h2 : g b = none) : a ≠ b := fun q => by
  subst q
  rw [h1] at h2
  cases h2
