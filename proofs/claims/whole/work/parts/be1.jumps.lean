/-! jumps go to labels of the script; pairs of bytes in the class -/
def JM (w : Int32) : Prop := w = 17 ∨ w = 18 ∨ w = 19
theorem cmb_jm {m : md_S} {i l0 : Nat} {ess : List (List EN)} {e : EN} (hw : WFN m i ess.length) (he : e ∈ cmb m i l0 ess) (hj : JM e.1) : e ∈ ess.flatten ∨ ((mA m 66 i = 41 ∨ mA m 66 i = 19) ∧ (e.2.1 = nI l0 ∨ e.2.1 = nI (l0 + 1))) := by
  have hk := hw.kj
  have no : ∀ x : EN, e = x → ¬ JM x.1 → False := fun x hx hn => hn (by rw [← hx]; exact hj)
  by_cases h40 : mA m 66 i = 40
  · have h2 := hk.1 h40
    obtain ⟨e0, e1, rfl⟩ := ln2 h2
    have hc : cmb m i l0 [e0, e1] = e0 ++ ([(3, kv m (aN m 68 i), 0)] ++ e1) := by
      unfold cmb; rw [if_pos h40]; simp
    rw [hc] at he
    rcases List.mem_append.mp he with y | y
    · left; simp [y]
    · rcases List.mem_append.mp y with y | y
      · exact (no _ (List.mem_singleton.mp y) (by unfold JM; show ¬ ((3 : Int32) = 17 ∨ (3 : Int32) = 18 ∨ (3 : Int32) = 19); decide)).elim
      · left; simp [y]
  by_cases h41 : mA m 66 i = 41
  · have h2 := hk.2.2.1 h41
    obtain ⟨e0, e1, e2, rfl⟩ := ln3 h2
    have hc : cmb m i l0 [e0, e1, e2] = e0 ++ ([(18, nI l0, 0)] ++ (e1 ++ ([(17, nI (l0 + 1), 0), (100, nI l0, 0)] ++ (e2 ++ [(100, nI (l0 + 1), 0)])))) := by
      unfold cmb; rw [if_neg h40, if_pos h41]; simp
    rw [hc] at he
    simp only [List.mem_append, List.mem_cons, List.mem_nil_iff, or_false] at he
    rcases he with y | y | y | (y | y) | y | y
    · left; simp [y]
    · right; exact ⟨Or.inl h41, Or.inl (by rw [y])⟩
    · left; simp [y]
    · right; exact ⟨Or.inl h41, Or.inr (by rw [y])⟩
    · right; exact ⟨Or.inl h41, Or.inl (by rw [y])⟩
    · left; simp [y]
    · right; exact ⟨Or.inl h41, Or.inr (by rw [y])⟩
  by_cases h19 : mA m 66 i = 19
  · have h2 := hk.2.1 h19
    obtain ⟨e0, e1, rfl⟩ := ln2 h2
    have hc : cmb m i l0 [e0, e1] = [(19, nI l0, 0)] ++ (e0 ++ ([(20, 0, 0), (17, nI (l0 + 1), 0), (100, nI l0, 0), (3, kv m (aN m 68 i), 0)] ++ (e1 ++ [(100, nI (l0 + 1), 0)]))) := by
      unfold cmb; rw [if_neg h40, if_neg h41, if_pos h19]; simp
    rw [hc] at he
    simp only [List.mem_append, List.mem_cons, List.mem_nil_iff, or_false] at he
    rcases he with y | y | (y | y | y | y) | y | y
    · right; exact ⟨Or.inr h19, Or.inl (by rw [y])⟩
    · left; simp [y]
    · exact (no _ y (by unfold JM; decide)).elim
    · right; exact ⟨Or.inr h19, Or.inr (by rw [y])⟩
    · right; exact ⟨Or.inr h19, Or.inl (by rw [y])⟩
    · exact (no _ y (by unfold JM; show ¬ ((3 : Int32) = 17 ∨ (3 : Int32) = 18 ∨ (3 : Int32) = 19); decide)).elim
    · left; simp [y]
    · right; exact ⟨Or.inr h19, Or.inr (by rw [y])⟩
  by_cases h42 : mA m 66 i = 42
  · have hc : cmb m i l0 ess = rowE ess := by unfold cmb; rw [if_neg h40, if_neg h41, if_neg h19, if_pos h42]
    rw [hc] at he
    rcases rowE_mem he with y | y
    · exact Or.inl y
    · exact (no _ y (by unfold JM; decide)).elim
  by_cases h2 : mA m 66 i = 2
  · have hc : cmb m i l0 ess = [(2, kv m (aN m 68 i), 0)] := by unfold cmb; rw [if_neg h40, if_neg h41, if_neg h19, if_neg h42, if_pos h2]
    rw [hc] at he
    exact (no _ (List.mem_singleton.mp he) (by unfold JM; show ¬ ((2 : Int32) = 17 ∨ (2 : Int32) = 18 ∨ (2 : Int32) = 19); decide)).elim
  by_cases h9 : mA m 66 i = 9 ∨ mA m 66 i = 10
  · have hc : cmb m i l0 ess = ess.flatten ++ (gts m (aN m 68 i) ++ [(mA m 66 i, mA m 68 i, 0)]) := by unfold cmb; rw [if_neg h40, if_neg h41, if_neg h19, if_neg h42, if_neg h2, if_pos h9, List.append_assoc]
    rw [hc] at he
    rcases List.mem_append.mp he with y | y
    · exact Or.inl y
    · rcases List.mem_append.mp y with y | y
      · unfold gts at y
        obtain ⟨x, -, rfl⟩ := List.mem_map.mp y
        exact (no _ rfl (by unfold JM; show ¬ ((2 : Int32) = 17 ∨ (2 : Int32) = 18 ∨ (2 : Int32) = 19); decide)).elim
      · refine (no _ (List.mem_singleton.mp y) ?_).elim
        unfold JM
        show ¬ (mA m 66 i = 17 ∨ mA m 66 i = 18 ∨ mA m 66 i = 19)
        rcases h9 with h | h <;> rw [h] <;> decide
  · have hc := cmb_d (l0 := l0) (ess := ess) (m := m) (i := i) (by simp only [List.mem_cons, List.mem_nil_iff, or_false, not_or]; exact ⟨h40, h41, h19, h42, h2, fun y => h9 (Or.inl y), fun y => h9 (Or.inr y)⟩)
    rw [hc] at he
    rcases List.mem_append.mp he with y | y
    · exact Or.inl y
    · refine (no _ (List.mem_singleton.mp y) ?_).elim
      unfold JM
      show ¬ (mA m 66 i = 17 ∨ mA m 66 i = 18 ∨ mA m 66 i = 19)
      rintro (h | h | h)
      · unfold WFN at hw
        rw [h] at hw
        simp (decide := true) at hw
      · unfold WFN at hw
        rw [h] at hw
        simp (decide := true) at hw
      · exact h19 h
theorem GL.jm {G : Nat → Nat → Nat → List EN → List Nat → Prop} (hG : ∀ {x a b : Nat} {e : List EN} {nx : List Nat}, G x a b e nx → ∀ y, y ∈ e → JM y.1 → y.2.1 ∈ lbs e) : ∀ {ch : List Nat} {l0 l1 : Nat} {ess : List (List EN)} {ns : List Nat}, GL G ch l0 l1 ess ns → ∀ y, y ∈ ess.flatten → JM y.1 → y.2.1 ∈ lbs ess.flatten
  | [], l0, l1, _, _, ⟨_, h2, _⟩, y, hy, _ => by rw [h2] at hy; exact absurd hy (by simp)
  | x :: xs, l0, l1, ess, ns, ⟨la, es, rest, n1, n2, h1, h2, h3, h4⟩, y, hy, hj => by
      rw [h3, List.flatten_cons] at hy ⊢
      rw [lbs_app]
      rcases List.mem_append.mp hy with q | q
      · exact List.mem_append_left _ (hG h1 y q hj)
      · exact List.mem_append_right _ (GL.jm hG h2 y q hj)
theorem Gen.jm {m : md_S} {u : Nat} : ∀ {f : Nat} {i l0 l1 : Nat} {es : List EN} {ns : List Nat}, Gen m u f i l0 l1 es ns → ∀ y, y ∈ es → JM y.1 → y.2.1 ∈ lbs es
  | 0, _, _, _, _, _, h, _, _, _ => h.elim
  | f + 1, i, l0, l1, es, ns, ⟨h1, h2, ch, ess, n1, h3, h4, h5, h6, h7⟩, y, hy, hj => by
      have hl : ∀ y, y ∈ ess.flatten → JM y.1 → y.2.1 ∈ lbs ess.flatten := h4.jm (fun h => Gen.jm h)
      have hw : WFN m i ess.length := by rw [h4.len]; exact h7
      obtain ⟨c1, c2⟩ := lbs_cmb (l0 := l0) hw
      rw [h5] at hy ⊢
      rcases cmb_jm hw hy hj with q | ⟨hk, q⟩
      · have hq := hl y q hj
        by_cases hk : mA m 66 i = 41 ∨ mA m 66 i = 19
        · obtain ⟨A, B, r1, r2⟩ := c2 hk
          rw [r1] at hq
          rw [r2]
          rcases List.mem_append.mp hq with z | z
          · exact List.mem_append_left _ z
          · exact List.mem_append_right _ (List.mem_cons_of_mem _ (List.mem_append_left _ z))
        · rw [c1 (fun z => hk (Or.inl z)) (fun z => hk (Or.inr z))]; exact hq
      · obtain ⟨A, B, r1, r2⟩ := c2 hk
        rw [r2]
        rcases q with q | q
        · rw [q]; exact List.mem_append_right _ (List.mem_cons_self)
        · rw [q]; exact List.mem_append_right _ (List.mem_cons_of_mem _ (List.mem_append_right _ (List.mem_singleton.mpr rfl)))
