/-! entries and nodes -/
theorem WFN.kj {m : md_S} {i j : Nat} (h : WFN m i j) : (mA m 66 i = 40 → j = 2) ∧ (mA m 66 i = 19 → j = 2) ∧ (mA m 66 i = 41 → j = 3) ∧ (mA m 66 i = 2 → j = 0) ∧ (mA m 66 i = 9 ∨ mA m 66 i = 10 → mA m 69 i = 0 ∧ ∃ a, mA m 68 i = nI a ∧ a < mN m 35) ∧ (mA m 66 i = 7 → ∃ a, mA m 68 i = nI a ∧ a < mN m 60) := by
  unfold WFN at h
  refine ⟨fun hk => ?_, fun hk => ?_, fun hk => ?_, fun hk => ?_, ?_, fun hk => ?_⟩
  · rw [hk] at h
    simp (decide := true) at h
    exact h.1
  · rw [hk] at h
    simp (decide := true) at h
    exact h.1
  · rw [hk] at h
    simp (decide := true) at h
    exact h.1
  · rw [hk] at h
    simp (decide := true) at h
    exact h.1
  · rintro (hk | hk)
    · rw [hk] at h
      simp (decide := true) at h
      obtain ⟨-, h2, a, h3, h4, -⟩ := h
      exact ⟨h2, a, h3, h4.1⟩
    · rw [hk] at h
      simp (decide := true) at h
      obtain ⟨-, h2, a, h3, h4, -⟩ := h
      exact ⟨h2, a, h3, h4.1⟩
  · rw [hk] at h
    simp (decide := true) at h
    exact h.1
def spC : List Int32 := [2, 3, 16, 17, 18, 19, 20, 100]
theorem rowE_mem {e : EN} : ∀ {ess : List (List EN)}, e ∈ rowE ess → e ∈ ess.flatten ∨ e = (16, 0, 0)
  | [], h => absurd h (by simp [rowE])
  | a :: r, h => by
      rcases List.mem_append.mp h with h | h
      · exact Or.inl (by simp [h])
      · obtain ⟨x, hx, h⟩ := List.mem_flatMap.mp h
        rcases List.mem_cons.mp h with h | h
        · exact Or.inr h
        · left
          rw [List.flatten_cons]
          exact List.mem_append_right _ (List.mem_flatten.mpr ⟨x, hx, h⟩)
theorem mem_rowE {e : EN} : ∀ {ess : List (List EN)}, e ∈ ess.flatten → e ∈ rowE ess
  | [], h => absurd h (by simp)
  | a :: r, h => by
      rw [List.flatten_cons] at h
      rcases List.mem_append.mp h with h | h
      · exact List.mem_append_left _ h
      · obtain ⟨x, hx, h⟩ := List.mem_flatten.mp h
        exact List.mem_append_right _ (List.mem_flatMap.mpr ⟨x, hx, List.mem_cons_of_mem _ h⟩)
/-- what a node's entries are -/
theorem cmb_mem {m : md_S} {i l0 : Nat} {ess : List (List EN)} {e : EN} (hw : WFN m i ess.length) (h : e ∈ cmb m i l0 ess) : e ∈ ess.flatten ∨ e.1 ∈ spC ∨ e = (mA m 66 i, mA m 68 i, mA m 69 i) := by
  have gd : ∀ x, e ∈ ess.getD x [] → e ∈ ess.flatten := fun x hx => by
    by_cases hl : x < ess.length
    · rw [List.getD_eq_getElem?_getD, List.getElem?_eq_getElem hl] at hx
      exact List.mem_flatten.mpr ⟨ess[x], List.getElem_mem hl, hx⟩
    · rw [List.getD_eq_getElem?_getD, List.getElem?_eq_none (by omega)] at hx
      exact absurd hx (by simp)
  have sp : ∀ {x y z : Int32}, e = (x, y, z) → x ∈ spC → e.1 ∈ spC := fun h1 h2 => by rw [h1]; exact h2
  obtain ⟨w1, w2, w3, w4, w5, w6⟩ := hw.kj
  unfold cmb at h
  split at h
  · rcases List.mem_append.mp h with h | h
    · rcases List.mem_append.mp h with h | h
      · exact Or.inl (gd 0 h)
      · exact Or.inr (Or.inl (sp (List.mem_singleton.mp h) (by decide)))
    · exact Or.inl (gd 1 h)
  · split at h
    · simp only [List.mem_append, List.mem_cons, List.not_mem_nil, or_false] at h
      rcases h with ((((h | h) | h) | h | h) | h) | h
      · exact Or.inl (gd 0 h)
      · exact Or.inr (Or.inl (sp h (by decide)))
      · exact Or.inl (gd 1 h)
      · exact Or.inr (Or.inl (sp h (by decide)))
      · exact Or.inr (Or.inl (sp h (by decide)))
      · exact Or.inl (gd 2 h)
      · exact Or.inr (Or.inl (sp h (by decide)))
    · split at h
      · simp only [List.mem_append, List.mem_cons, List.not_mem_nil, or_false] at h
        rcases h with (((h | h) | h | h | h | h) | h) | h
        · exact Or.inr (Or.inl (sp h (by decide)))
        · exact Or.inl (gd 0 h)
        · exact Or.inr (Or.inl (sp h (by decide)))
        · exact Or.inr (Or.inl (sp h (by decide)))
        · exact Or.inr (Or.inl (sp h (by decide)))
        · exact Or.inr (Or.inl (sp h (by decide)))
        · exact Or.inl (gd 1 h)
        · exact Or.inr (Or.inl (sp h (by decide)))
      · split at h
        · rcases rowE_mem h with h | h
          · exact Or.inl h
          · exact Or.inr (Or.inl (sp h (by decide)))
        · split at h
          · exact Or.inr (Or.inl (sp (List.mem_singleton.mp h) (by decide)))
          · split at h
            · rename_i hk
              simp only [List.mem_append, List.mem_singleton] at h
              rcases h with (h | h) | h
              · exact Or.inl h
              · unfold gts at h
                obtain ⟨x, -, hx⟩ := List.mem_map.mp h
                exact Or.inr (Or.inl (sp hx.symm (by decide)))
              · exact Or.inr (Or.inr (by rw [h, (w5 hk).1]))
            · simp only [List.mem_append, List.mem_singleton] at h
              exact h.imp (fun y => y) (fun y => Or.inr y)
theorem mem_cmb {m : md_S} {i l0 : Nat} {ess : List (List EN)} (hw : WFN m i ess.length) : (∀ e, e ∈ ess.flatten → e ∈ cmb m i l0 ess) ∧ ((mA m 66 i = 40 ∨ mA m 66 i = 41 ∨ mA m 66 i = 19 ∨ mA m 66 i = 42 ∨ mA m 66 i = 2) ∨ (mA m 66 i, mA m 68 i, mA m 69 i) ∈ cmb m i l0 ess) := by
  obtain ⟨w1, w2, w3, w4, w5, w6⟩ := hw.kj
  unfold cmb
  split
  · rename_i hk
    refine ⟨fun e he => ?_, Or.inl (Or.inl hk)⟩
    have hl := w1 hk
    match ess, hl, he with
    | [a, b], _, he => simp at he ⊢; rcases he with h | h <;> simp [h]
  · rename_i h40
    split
    · rename_i hk
      refine ⟨fun e he => ?_, Or.inl (Or.inr (Or.inl hk))⟩
      have hl := w3 hk
      match ess, hl, he with
      | [a, b, d], _, he => simp at he ⊢; rcases he with h | h | h <;> simp [h]
    · rename_i h41
      split
      · rename_i hk
        refine ⟨fun e he => ?_, Or.inl (Or.inr (Or.inr (Or.inl hk)))⟩
        have hl := w2 hk
        match ess, hl, he with
        | [a, b], _, he => simp at he ⊢; rcases he with h | h <;> simp [h]
      · rename_i h19
        split
        · rename_i hk
          exact ⟨fun e he => mem_rowE he, Or.inl (Or.inr (Or.inr (Or.inr (Or.inl hk))))⟩
        · rename_i h42
          split
          · rename_i hk
            refine ⟨fun e he => ?_, Or.inl (Or.inr (Or.inr (Or.inr (Or.inr hk))))⟩
            have hl := w4 hk
            match ess, hl, he with
            | [], _, he => exact absurd he (by simp)
          · split
            · rename_i hk
              refine ⟨fun e he => by simp [he], Or.inr ?_⟩
              rw [(w5 hk).1]; simp
            · exact ⟨fun e he => by simp [he], Or.inr (by simp)⟩
def GE (m : md_S) (es : List EN) (ns : List Nat) : Prop := (∀ e, e ∈ es → (∃ j, j ∈ ns ∧ j < 900 ∧ e = (mA m 66 j, mA m 68 j, mA m 69 j) ∧ ∃ k, WFN m j k) ∨ e.1 ∈ spC) ∧ ∀ j, j ∈ ns → j < 900 → (∃ k, WFN m j k) ∧ ((mA m 66 j = 40 ∨ mA m 66 j = 41 ∨ mA m 66 j = 19 ∨ mA m 66 j = 42 ∨ mA m 66 j = 2) ∨ (mA m 66 j, mA m 68 j, mA m 69 j) ∈ es)
theorem GL.ge {m : md_S} {G : Nat → Nat → Nat → List EN → List Nat → Prop} (hG : ∀ {x l0 l1 : Nat} {es : List EN} {ns : List Nat}, G x l0 l1 es ns → GE m es ns) : ∀ {ch : List Nat} {l0 l1 : Nat} {ess : List (List EN)} {ns : List Nat}, GL G ch l0 l1 ess ns → GE m ess.flatten ns
  | [], _, _, ess, ns, h => by
      rw [h.2.1, h.2.2]
      exact ⟨fun e he => absurd he (by simp), fun j hj => absurd hj (by simp)⟩
  | x :: xs, _, _, ess, ns, ⟨la, es, rest, n1, n2, h1, h2, h3, h4⟩ => by
      have g1 := hG h1
      have g2 := GL.ge hG h2
      rw [h3, h4, List.flatten_cons]
      refine ⟨fun e he => ?_, fun j hj h9 => ?_⟩
      · rcases List.mem_append.mp he with he | he
        · exact (g1.1 e he).imp (fun ⟨j, j1, j2⟩ => ⟨j, by simp [j1], j2⟩) (fun y => y)
        · exact (g2.1 e he).imp (fun ⟨j, j1, j2⟩ => ⟨j, by simp [j1], j2⟩) (fun y => y)
      · rcases List.mem_append.mp hj with hj | hj
        · exact ⟨(g1.2 j hj h9).1, (g1.2 j hj h9).2.imp (fun y => y) (fun y => by simp [y])⟩
        · exact ⟨(g2.2 j hj h9).1, (g2.2 j hj h9).2.imp (fun y => y) (fun y => by simp [y])⟩
theorem Gen.ge {m : md_S} {u : Nat} : ∀ {f : Nat} {i l0 l1 : Nat} {es : List EN} {ns : List Nat}, Gen m u f i l0 l1 es ns → GE m es ns
  | 0, _, _, _, _, _, g => g.elim
  | f + 1, i, l0, l1, es, ns, ⟨h1, h2, ch, ess, n1, h3, h4, h5, h6, h7⟩ => by
      have g := GL.ge (m := m) (fun q => Gen.ge q) h4
      have hw : WFN m i ess.length := by rw [h4.len]; exact h7
      have mc := mem_cmb (l0 := l0) hw
      rw [h5, h6]
      refine ⟨fun e he => ?_, fun j hj h9 => ?_⟩
      · rcases cmb_mem hw he with y | y | y
        · exact (g.1 e y).imp (fun ⟨j, j1, j2⟩ => ⟨j, by simp [j1], j2⟩) (fun y => y)
        · exact Or.inr y
        · exact Or.inl ⟨i, by simp, h2, y, _, hw⟩
      · rcases List.mem_cons.mp hj with y | y
        · rw [y]; exact ⟨⟨_, hw⟩, mc.2⟩
        · rcases List.mem_append.mp y with y | y
          · unfold um at y
            split at y
            · have := List.mem_singleton.mp y; omega
            · exact absurd y (by simp)
          · exact ⟨(g.2 j y h9).1, (g.2 j y h9).2.imp (fun y => y) (fun z => mc.1 _ z)⟩
/-- node j, as an entry -/
def nE (m : md_S) (j : Nat) : EN := (mA m 66 j, mA m 68 j, mA m 69 j)
theorem spC_no {m : md_S} {S : Nat → Prop} {e : EN} (h : e.1 ∈ spC) : ¬ HE m S e := by
  have k : ∀ w : Int32, w ∈ spC → w ≠ 25 ∧ w ≠ 26 ∧ w ≠ 27 ∧ w ≠ 10 ∧ w ≠ 7 ∧ w ≠ 8 ∧ w ≠ 23 := by decide
  obtain ⟨k1, k2, k3, k4, k5, k6, k7⟩ := k _ h
  rintro (y | y | y | y | ⟨v, -, y, -⟩)
  · exact k1 y
  · exact k2 y
  · exact k3 y
  · exact k4 y.1
  · rcases y with ⟨y, -⟩ | ⟨y, -⟩ | ⟨y, -⟩
    · exact k5 y
    · exact k6 y
    · exact k7 y
theorem kd_no {m : md_S} {S : Nat → Prop} {e : EN} (h : e.1 = 40 ∨ e.1 = 41 ∨ e.1 = 19 ∨ e.1 = 42 ∨ e.1 = 2) : ¬ HE m S e := by
  have k : ∀ w : Int32, (w = 40 ∨ w = 41 ∨ w = 19 ∨ w = 42 ∨ w = 2) → w ≠ 25 ∧ w ≠ 26 ∧ w ≠ 27 ∧ w ≠ 10 ∧ w ≠ 7 ∧ w ≠ 8 ∧ w ≠ 23 := by
    rintro w (rfl | rfl | rfl | rfl | rfl) <;> decide
  obtain ⟨k1, k2, k3, k4, k5, k6, k7⟩ := k _ h
  rintro (y | y | y | y | ⟨v, -, y, -⟩)
  · exact k1 y
  · exact k2 y
  · exact k3 y
  · exact k4 y.1
  · rcases y with ⟨y, -⟩ | ⟨y, -⟩ | ⟨y, -⟩
    · exact k5 y
    · exact k6 y
    · exact k7 y
theorem HE.gen {m : md_S} {S : Nat → Prop} {es : List EN} {ns : List Nat} (h : GE m es ns) : (∃ e, e ∈ es ∧ HE m S e) ↔ ∃ j, j ∈ ns ∧ j < 900 ∧ HE m S (nE m j) := by
  constructor
  · rintro ⟨e, he, hh⟩
    rcases h.1 e he with ⟨j, j1, j2, j3, -⟩ | y
    · exact ⟨j, j1, j2, by rw [nE, ← j3]; exact hh⟩
    · exact absurd hh (spC_no y)
  · rintro ⟨j, j1, j2, hh⟩
    rcases (h.2 j j1 j2).2 with y | y
    · exact absurd hh (kd_no y)
    · exact ⟨_, y, hh⟩
theorem WFE.gen {m : md_S} {es : List EN} {ns : List Nat} (h : GE m es ns) {e : EN} (he : e ∈ es) : WFE m e := by
  rcases h.1 e he with ⟨j, j1, j2, j3, k, hw⟩ | y
  · obtain ⟨-, -, -, -, w5, w6⟩ := hw.kj
    rw [j3]
    exact ⟨fun y => w6 y, fun y => (w5 (Or.inr y)).2⟩
  · have k : ∀ w : Int32, w ∈ spC → w ≠ 7 ∧ w ≠ 10 := by decide
    exact ⟨fun z => absurd z (k _ y).1, fun z => absurd z (k _ y).2⟩
